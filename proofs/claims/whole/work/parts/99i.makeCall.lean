section
/-! 99i.makeCall.lean.txt -/
theorem gw_1020 : (Jvm.Cond.methodLink "PatchStore$Maker" (46 : Nat) ({ cls := "PatchStore$Maker", name := "writeCall", desc := "(LPatchStore$View;I[BI)V" } : Jvm.MethodName)) ∈ xg_1 := xg_s5 60 rfl rfl
theorem gw_1022 : (Jvm.Cond.instanceMethod ({ cls := "PatchStore$Maker", name := "writeCall", desc := "(LPatchStore$View;I[BI)V" } : Jvm.MethodName)) ∈ xg_1 := xg_s5 62 rfl rfl
theorem gw_1023 : (Jvm.Cond.code ({ cls := "PatchStore$Maker", name := "writeCall", desc := "(LPatchStore$View;I[BI)V" } : Jvm.MethodName) prog_6_method_4_code (6 : Nat) (Option.none : Option Jvm.ClassFile.FieldType)) ∈ xg_1 := xg_s5 63 rfl rfl
def y_Mk_makeCall : MethodName := ⟨"PatchStore$Maker", "makeCall", "(LPatchStore$View;I[BI)V"⟩
abbrev c_Mk_makeCall : Cond := (Jvm.Cond.code ({ cls := "PatchStore$Maker", name := "makeCall", desc := "(LPatchStore$View;I[BI)V" } : Jvm.MethodName) prog_6_method_3_code (5 : Nat) (Option.none : Option Jvm.ClassFile.FieldType))
abbrev ws_Mk_makeCall : List Cond := c_Mk_makeCall :: xg_1
theorem d_Mk_makeCall_0 : decode prog_6_method_3_code 0 = .ok (.aload_n 0, 1) := by decide +kernel
theorem d_Mk_makeCall_1 : decode prog_6_method_3_code 1 = .ok (.invokevirtual 22, 3) := by decide +kernel
theorem d_Mk_makeCall_4 : decode prog_6_method_3_code 4 = .ok (.aload_n 0, 1) := by decide +kernel
theorem d_Mk_makeCall_5 : decode prog_6_method_3_code 5 = .ok (.aload_n 1, 1) := by decide +kernel
theorem d_Mk_makeCall_6 : decode prog_6_method_3_code 6 = .ok (.iload_n 2, 1) := by decide +kernel
theorem d_Mk_makeCall_7 : decode prog_6_method_3_code 7 = .ok (.aload_n 3, 1) := by decide +kernel
theorem d_Mk_makeCall_8 : decode prog_6_method_3_code 8 = .ok (.iload 4, 2) := by decide +kernel
theorem d_Mk_makeCall_10 : decode prog_6_method_3_code 10 = .ok (.invokevirtual 46, 3) := by decide +kernel
theorem d_Mk_makeCall_13 : decode prog_6_method_3_code 13 = .ok (.aload_n 0, 1) := by decide +kernel
theorem d_Mk_makeCall_14 : decode prog_6_method_3_code 14 = .ok (.invokevirtual 29, 3) := by decide +kernel
theorem d_Mk_makeCall_17 : decode prog_6_method_3_code 17 = .ok (.aload_n 0, 1) := by decide +kernel
theorem d_Mk_makeCall_18 : decode prog_6_method_3_code 18 = .ok (.aload_n 1, 1) := by decide +kernel
theorem d_Mk_makeCall_19 : decode prog_6_method_3_code 19 = .ok (.iload_n 2, 1) := by decide +kernel
theorem d_Mk_makeCall_20 : decode prog_6_method_3_code 20 = .ok (.aload_n 3, 1) := by decide +kernel
theorem d_Mk_makeCall_21 : decode prog_6_method_3_code 21 = .ok (.iload 4, 2) := by decide +kernel
theorem d_Mk_makeCall_23 : decode prog_6_method_3_code 23 = .ok (.invokevirtual 46, 3) := by decide +kernel
theorem d_Mk_makeCall_26 : decode prog_6_method_3_code 26 = .ok (.aload_n 0, 1) := by decide +kernel
theorem d_Mk_makeCall_27 : decode prog_6_method_3_code 27 = .ok (.invokevirtual 43, 3) := by decide +kernel
theorem d_Mk_makeCall_30 : decode prog_6_method_3_code 30 = .ok (.return_, 1) := by decide +kernel
theorem nms_lt {PC : Nat → Nat} {nm : Nat → Int32} {n : Nat} (h : ∀ q, q < n → nm q = 0 ∨ nm q = 1) : ∀ A : List Nat, ∀ q, q < n → nms PC nm A q = 0 ∨ nms PC nm A q = 1 := by
  intro A
  induction A generalizing nm with
  | nil => exact h
  | cons c t ih =>
    intro q hq
    refine ih (nm := upd nm (PC c) 1) (fun r hr => ?_) q hq
    by_cases e : r = PC c
    · rw [e, upd_eq]; exact Or.inr rfl
    · rw [upd_ne _ e]; exact h r hr
end
section
/-! 99j.split.lean.txt -/
theorem gw_469 : (Jvm.Cond.fieldLink "PatchStore$Recording" (53 : Nat) "PatchStore$Recording" "newTotal" "I") ∈ xg_1 := xg_s2 229 rfl rfl
def y_Rc_split : MethodName := ⟨"PatchStore$Recording", "split", "(I)Z"⟩
abbrev c_Rc_split : Cond := (Jvm.Cond.code ({ cls := "PatchStore$Recording", name := "split", desc := "(I)Z" } : Jvm.MethodName) prog_7_method_2_code (4 : Nat) (Option.some Jvm.ClassFile.FieldType.boolean))
abbrev ws_Rc_split : List Cond := c_Rc_split :: xg_1
theorem d_Rc_split_0 : decode prog_7_method_2_code 0 = .ok (.aload_n 0, 1) := by decide +kernel
theorem d_Rc_split_1 : decode prog_7_method_2_code 1 = .ok (.iconst 0, 1) := by decide +kernel
theorem d_Rc_split_2 : decode prog_7_method_2_code 2 = .ok (.putfield 53, 3) := by decide +kernel
theorem d_Rc_split_5 : decode prog_7_method_2_code 5 = .ok (.iconst 0, 1) := by decide +kernel
theorem d_Rc_split_6 : decode prog_7_method_2_code 6 = .ok (.istore_n 2, 1) := by decide +kernel
theorem d_Rc_split_7 : decode prog_7_method_2_code 7 = .ok (.iconst 0, 1) := by decide +kernel
theorem d_Rc_split_8 : decode prog_7_method_2_code 8 = .ok (.istore_n 3, 1) := by decide +kernel
theorem d_Rc_split_9 : decode prog_7_method_2_code 9 = .ok (.iload_n 3, 1) := by decide +kernel
theorem d_Rc_split_10 : decode prog_7_method_2_code 10 = .ok (.iload_n 1, 1) := by decide +kernel
theorem d_Rc_split_11 : decode prog_7_method_2_code 11 = .ok (.if_icmp .ge 88, 3) := by decide +kernel
theorem d_Rc_split_14 : decode prog_7_method_2_code 14 = .ok (.aload_n 0, 1) := by decide +kernel
theorem d_Rc_split_15 : decode prog_7_method_2_code 15 = .ok (.getfield 49, 3) := by decide +kernel
theorem d_Rc_split_18 : decode prog_7_method_2_code 18 = .ok (.iload_n 3, 1) := by decide +kernel
theorem d_Rc_split_19 : decode prog_7_method_2_code 19 = .ok (.baload, 1) := by decide +kernel
theorem d_Rc_split_20 : decode prog_7_method_2_code 20 = .ok (.bipush 10, 2) := by decide +kernel
theorem d_Rc_split_22 : decode prog_7_method_2_code 22 = .ok (.if_icmp .eq 10, 3) := by decide +kernel
theorem d_Rc_split_25 : decode prog_7_method_2_code 25 = .ok (.iload_n 3, 1) := by decide +kernel
theorem d_Rc_split_26 : decode prog_7_method_2_code 26 = .ok (.iload_n 1, 1) := by decide +kernel
theorem d_Rc_split_27 : decode prog_7_method_2_code 27 = .ok (.iconst 1, 1) := by decide +kernel
theorem d_Rc_split_28 : decode prog_7_method_2_code 28 = .ok (.isub, 1) := by decide +kernel
theorem d_Rc_split_29 : decode prog_7_method_2_code 29 = .ok (.if_icmp .ne 64, 3) := by decide +kernel
theorem d_Rc_split_32 : decode prog_7_method_2_code 32 = .ok (.iload_n 3, 1) := by decide +kernel
theorem d_Rc_split_33 : decode prog_7_method_2_code 33 = .ok (.iconst 1, 1) := by decide +kernel
theorem d_Rc_split_34 : decode prog_7_method_2_code 34 = .ok (.iadd, 1) := by decide +kernel
theorem d_Rc_split_35 : decode prog_7_method_2_code 35 = .ok (.iload_n 2, 1) := by decide +kernel
theorem d_Rc_split_36 : decode prog_7_method_2_code 36 = .ok (.isub, 1) := by decide +kernel
theorem d_Rc_split_37 : decode prog_7_method_2_code 37 = .ok (.sipush 500, 3) := by decide +kernel
theorem d_Rc_split_40 : decode prog_7_method_2_code 40 = .ok (.if_icmp .le 5, 3) := by decide +kernel
theorem d_Rc_split_43 : decode prog_7_method_2_code 43 = .ok (.iconst 0, 1) := by decide +kernel
theorem d_Rc_split_44 : decode prog_7_method_2_code 44 = .ok (.ireturn, 1) := by decide +kernel
theorem d_Rc_split_45 : decode prog_7_method_2_code 45 = .ok (.aload_n 0, 1) := by decide +kernel
theorem d_Rc_split_46 : decode prog_7_method_2_code 46 = .ok (.getfield 53, 3) := by decide +kernel
theorem d_Rc_split_49 : decode prog_7_method_2_code 49 = .ok (.sipush 200, 3) := by decide +kernel
theorem d_Rc_split_52 : decode prog_7_method_2_code 52 = .ok (.if_icmp .ge 27, 3) := by decide +kernel
theorem d_Rc_split_55 : decode prog_7_method_2_code 55 = .ok (.aload_n 0, 1) := by decide +kernel
theorem d_Rc_split_56 : decode prog_7_method_2_code 56 = .ok (.getfield 9, 3) := by decide +kernel
theorem d_Rc_split_59 : decode prog_7_method_2_code 59 = .ok (.aload_n 0, 1) := by decide +kernel
theorem d_Rc_split_60 : decode prog_7_method_2_code 60 = .ok (.getfield 53, 3) := by decide +kernel
theorem d_Rc_split_63 : decode prog_7_method_2_code 63 = .ok (.iload_n 2, 1) := by decide +kernel
theorem d_Rc_split_64 : decode prog_7_method_2_code 64 = .ok (.iastore, 1) := by decide +kernel
theorem d_Rc_split_65 : decode prog_7_method_2_code 65 = .ok (.aload_n 0, 1) := by decide +kernel
theorem d_Rc_split_66 : decode prog_7_method_2_code 66 = .ok (.getfield 15, 3) := by decide +kernel
theorem d_Rc_split_69 : decode prog_7_method_2_code 69 = .ok (.aload_n 0, 1) := by decide +kernel
theorem d_Rc_split_70 : decode prog_7_method_2_code 70 = .ok (.getfield 53, 3) := by decide +kernel
theorem d_Rc_split_73 : decode prog_7_method_2_code 73 = .ok (.iload_n 3, 1) := by decide +kernel
theorem d_Rc_split_74 : decode prog_7_method_2_code 74 = .ok (.iconst 1, 1) := by decide +kernel
theorem d_Rc_split_75 : decode prog_7_method_2_code 75 = .ok (.iadd, 1) := by decide +kernel
theorem d_Rc_split_76 : decode prog_7_method_2_code 76 = .ok (.iload_n 2, 1) := by decide +kernel
theorem d_Rc_split_77 : decode prog_7_method_2_code 77 = .ok (.isub, 1) := by decide +kernel
theorem d_Rc_split_78 : decode prog_7_method_2_code 78 = .ok (.iastore, 1) := by decide +kernel
theorem d_Rc_split_79 : decode prog_7_method_2_code 79 = .ok (.aload_n 0, 1) := by decide +kernel
theorem d_Rc_split_80 : decode prog_7_method_2_code 80 = .ok (.dup, 1) := by decide +kernel
theorem d_Rc_split_81 : decode prog_7_method_2_code 81 = .ok (.getfield 53, 3) := by decide +kernel
theorem d_Rc_split_84 : decode prog_7_method_2_code 84 = .ok (.iconst 1, 1) := by decide +kernel
theorem d_Rc_split_85 : decode prog_7_method_2_code 85 = .ok (.iadd, 1) := by decide +kernel
theorem d_Rc_split_86 : decode prog_7_method_2_code 86 = .ok (.putfield 53, 3) := by decide +kernel
theorem d_Rc_split_89 : decode prog_7_method_2_code 89 = .ok (.iload_n 3, 1) := by decide +kernel
theorem d_Rc_split_90 : decode prog_7_method_2_code 90 = .ok (.iconst 1, 1) := by decide +kernel
theorem d_Rc_split_91 : decode prog_7_method_2_code 91 = .ok (.iadd, 1) := by decide +kernel
theorem d_Rc_split_92 : decode prog_7_method_2_code 92 = .ok (.istore_n 2, 1) := by decide +kernel
theorem d_Rc_split_93 : decode prog_7_method_2_code 93 = .ok (.iinc 3 1, 3) := by decide +kernel
theorem d_Rc_split_96 : decode prog_7_method_2_code 96 = .ok (.goto (-87), 3) := by decide +kernel
theorem d_Rc_split_99 : decode prog_7_method_2_code 99 = .ok (.iconst 1, 1) := by decide +kernel
theorem d_Rc_split_100 : decode prog_7_method_2_code 100 = .ok (.ireturn, 1) := by decide +kernel
/-- the lines of the first k of n bytes: where the next begins, and where each begins and how long it is -/
def spS (tf : Nat → Int32) (n : Nat) : Nat → Nat × List (Nat × Nat)
  | 0 => (0, [])
  | k + 1 => if tf k = 10 ∨ k + 1 = n then (k + 1, (spS tf n k).2 ++ [((spS tf n k).1, k + 1 - (spS tf n k).1)]) else spS tf n k
def spA (tf : Nat → Int32) (n k : Nat) : Nat := (spS tf n k).1
def spT (tf : Nat → Int32) (n k : Nat) : List (Nat × Nat) := (spS tf n k).2
def spN (tf : Nat → Int32) (n k : Nat) : Nat := (spT tf n k).length
theorem spS_yes {tf : Nat → Int32} {n k : Nat} (h : tf k = 10 ∨ k + 1 = n) : spA tf n (k + 1) = k + 1 ∧ spT tf n (k + 1) = spT tf n k ++ [(spA tf n k, k + 1 - spA tf n k)] := by
  have e : spS tf n (k + 1) = (k + 1, (spS tf n k).2 ++ [((spS tf n k).1, k + 1 - (spS tf n k).1)]) := if_pos h
  unfold spA spT
  rw [e]
  exact ⟨rfl, rfl⟩
theorem spS_no {tf : Nat → Int32} {n k : Nat} (h : ¬ (tf k = 10 ∨ k + 1 = n)) : spA tf n (k + 1) = spA tf n k ∧ spT tf n (k + 1) = spT tf n k := by
  have e : spS tf n (k + 1) = spS tf n k := if_neg h
  unfold spA spT
  rw [e]
  exact ⟨rfl, rfl⟩
theorem spN_yes {tf : Nat → Int32} {n k : Nat} (h : tf k = 10 ∨ k + 1 = n) : spN tf n k + 1 = spN tf n (k + 1) := by
  unfold spN
  rw [(spS_yes h).2, List.length_append]; rfl
theorem spN_no {tf : Nat → Int32} {n k : Nat} (h : ¬ (tf k = 10 ∨ k + 1 = n)) : spN tf n k = spN tf n (k + 1) := by
  unfold spN
  rw [(spS_no h).2]
theorem spA_le (tf : Nat → Int32) (n : Nat) : ∀ k, spA tf n k ≤ k
  | 0 => Nat.le_refl _
  | k + 1 => by
    rcases Classical.em (tf k = 10 ∨ k + 1 = n) with h | h
    · rw [(spS_yes h).1]; exact Nat.le_refl _
    · rw [(spS_no h).1]; have := spA_le tf n k; omega
theorem spN_le (tf : Nat → Int32) (n : Nat) : ∀ k, spN tf n k ≤ k
  | 0 => Nat.le_refl _
  | k + 1 => by
    rcases Classical.em (tf k = 10 ∨ k + 1 = n) with h | h
    · rw [← spN_yes h]; have := spN_le tf n k; omega
    · rw [← spN_no h]; have := spN_le tf n k; omega
theorem spT_mono {tf : Nat → Int32} {n j : Nat} {x : Nat × Nat} (hx : x ∈ spT tf n j) : ∀ {k}, j ≤ k → x ∈ spT tf n k
  | 0, h => by rw [show j = 0 by omega] at hx; exact hx
  | k + 1, h => by
    by_cases e : j = k + 1
    · rw [← e]; exact hx
    · have ih := spT_mono hx (k := k) (by omega)
      rcases Classical.em (tf k = 10 ∨ k + 1 = n) with z | z
      · rw [(spS_yes z).2]; exact List.mem_append_left _ ih
      · rw [(spS_no z).2]; exact ih
/-- the rows hold the first 200 lines -/
def spR (na nl : Nat → Int32) (T : List (Nat × Nat)) : Prop := ∀ i, i < T.length → i < 200 → na i = nI (T.getD i (0, 0)).1 ∧ nl i = nI (T.getD i (0, 0)).2
theorem spR.push {na nl : Nat → Int32} {T : List (Nat × Nat)} {a b : Nat} (h : spR na nl T) : spR (upd na T.length (nI a)) (upd nl T.length (nI b)) (T ++ [(a, b)]) := by
  intro i hi h2
  rw [List.length_append] at hi
  have hi : i < T.length + 1 := hi
  by_cases e : i = T.length
  · subst e
    rw [upd_eq, upd_eq, List.getD_eq_getElem?_getD, List.getElem?_append_right (Nat.le_refl _), Nat.sub_self]
    exact ⟨rfl, rfl⟩
  · rw [upd_ne _ e, upd_ne _ e, List.getD_eq_getElem?_getD, List.getElem?_append_left (by omega), ← List.getD_eq_getElem?_getD]
    exact h i (by omega) h2
theorem spR.more {na nl : Nat → Int32} {T : List (Nat × Nat)} {x : Nat × Nat} (h : spR na nl T) (hT : 200 ≤ T.length) : spR na nl (T ++ [x]) := by
  intro i hi h2
  rw [List.getD_eq_getElem?_getD, List.getElem?_append_left (by omega), ← List.getD_eq_getElem?_getD]
  exact h i (by omega) h2
set_option maxHeartbeats 4000000 in
set_option maxRecDepth 100000 in
/-- the tape is cut into lines -/
theorem m_Rc_split (l : Launch) (dC : Nat → ClassId) (dI : Nat → Nat → Nat) (cI cB cL cZ cR : ClassId) (h tp naA nlA : Nat) (rc_newTotal rc_stock rc_text rc_maker rc_oldTotal rc_file rc_sorts rc_sums rc_common rc_deleted rc_deletedTotal rc_kept rc_keptNew rc_keptTotal : Value) (tf na nl : Nat → Int32) (nn : Nat) (sz : Nat) (hnn : nn ≤ 65536) : Met l y_Rc_split ws_Rc_split ({ frames := 0, cells := 0, slots := 0, locals := 0 }) (xw_Pc dC dI [(cI, .int), (cB, .byte), (cL, .long), (cZ, .boolean), (cR, .object "PatchStore$Repository")] [.ref h, .int (nI nn)] [(h, .inr (6, [rc_newTotal, rc_stock, rc_text, rc_maker, .ref tp, rc_oldTotal, rc_file, .ref naA, .ref nlA, rc_sorts, rc_sums, rc_common, rc_deleted, rc_deletedTotal, rc_kept, rc_keptNew, rc_keptTotal])), (tp, .inl (cB, 65536, .inl tf)), (naA, .inl (cI, 200, .inl na)), (nlA, .inl (cI, 200, .inl nl))] sz) (va_Qi (fun (r : Int32) (u : (Nat → Int32) × (Nat → Int32) × Nat) => (r = 1 ∧ (∀ x, x ∈ (spT tf nn nn) → x.2 ≤ 500) ∧ spR u.1 u.2.1 (spT tf nn nn) ∧ u.2.2 = spN tf nn nn) ∨ (r = 0 ∧ ∃ x, x ∈ (spT tf nn nn) ∧ 500 < x.2)) (fun u t => xw_B dC dI [(cI, .int), (cB, .byte), (cL, .long), (cZ, .boolean), (cR, .object "PatchStore$Repository")] (va_A [(h, .inr (6, [rc_newTotal, rc_stock, rc_text, rc_maker, .ref tp, rc_oldTotal, rc_file, .ref naA, .ref nlA, rc_sorts, rc_sums, rc_common, rc_deleted, rc_deletedTotal, rc_kept, rc_keptNew, rc_keptTotal])), (tp, .inl (cB, 65536, .inl tf)), (naA, .inl (cI, 200, .inl na)), (nlA, .inl (cI, 200, .inl nl))] sz) [(h, .inr (6, [.int (nI u.2.2), rc_stock, rc_text, rc_maker, .ref tp, rc_oldTotal, rc_file, .ref naA, .ref nlA, rc_sorts, rc_sums, rc_common, rc_deleted, rc_deletedTotal, rc_kept, rc_keptNew, rc_keptTotal])), (tp, .inl (cB, 65536, .inl tf)), (naA, .inl (cI, 200, .inl u.1)), (nlA, .inl (cI, 200, .inl u.2.1))] t) (va_A [(h, .inr (6, [rc_newTotal, rc_stock, rc_text, rc_maker, .ref tp, rc_oldTotal, rc_file, .ref naA, .ref nlA, rc_sorts, rc_sums, rc_common, rc_deleted, rc_deletedTotal, rc_kept, rc_keptNew, rc_keptTotal])), (tp, .inl (cB, 65536, .inl tf)), (naA, .inl (cI, 200, .inl na)), (nlA, .inl (cI, 200, .inl nl))] sz)) 0 0 (va_A [(h, .inr (6, [rc_newTotal, rc_stock, rc_text, rc_maker, .ref tp, rc_oldTotal, rc_file, .ref naA, .ref nlA, rc_sorts, rc_sums, rc_common, rc_deleted, rc_deletedTotal, rc_kept, rc_keptNew, rc_keptTotal])), (tp, .inl (cB, 65536, .inl tf)), (naA, .inl (cI, 200, .inl na)), (nlA, .inl (cI, 200, .inl nl))] sz) := by
  refine Met.ofW (cc := prog_7_method_2_code) (maxL := 4) (ret := (Option.some Jvm.ClassFile.FieldType.boolean)) (by decide) rfl ?_
  intro p e s m args below meth c s₁ B hml hv
  obtain ⟨rfl, hsz, hP, hK, hD0⟩ := hv
  have hx := B.exec
  have hb := B.bytes
  have hr := B.returns
  have hts0 := atoms_spec (ws := ws_Rc_split) B.pre
  have hts : ∀ w ∈ xg_1, w.before _ s = true := fun w h => hts0 w (List.mem_cons_of_mem _ h)
  have hown : s.vm.findClass "PatchStore$Recording" = some m.cls := findClass_of_methodNamed B.named
  have hlocks := B.notSynchronized
  subst hsz
  have hD := hD0.self (sz := s.heap.size)
  generalize hAe : va_A [(h, .inr (6, [rc_newTotal, rc_stock, rc_text, rc_maker, .ref tp, rc_oldTotal, rc_file, .ref naA, .ref nlA, rc_sorts, rc_sums, rc_common, rc_deleted, rc_deletedTotal, rc_kept, rc_keptNew, rc_keptTotal])), (tp, .inl (cB, 65536, .inl tf)), (naA, .inl (cI, 200, .inl na)), (nlA, .inl (cI, 200, .inl nl))] s.heap.size = A at hD ⊢
  have hA : ∀ q : Nat, s.heap.size ≤ q → A q := fun q h => by rw [← hAe]; exact Or.inr h
  have hS : va_S A s.heap s.heap [] := va_S.rf
  have hl := lv_entry ([.ref h, .int (nI nn)]) (n := 4) (Nat.le_of_ble_eq_true rfl)
  rw [lg_entry_eq]
  generalize (lg_sl ([.ref h, .int (nI nn)]) ++ List.replicate (4 - (lg_sl ([.ref h, .int (nI nn)])).length) Slot.unset).toArray = ls at hl ⊢
  have hl : lv_has ls 4 [(0, .ref h), (1, .int (nI nn))] := hl
  generalize hQe : MQ _ _ _ _ _ _ _ = Q
  refine lv_aload_n hx hb d_Rc_split_0 rfl (lv_at hl 0 rfl) ?_
  refine lv_iconst (v := 0) hx hb d_Rc_split_1 (by decide) ?_
  refine lv_topi (fun x_1 ex_1 => ?_)
  obtain rfl : x_1 = nI 0 := by rw [ex_1]; first | done | (rfl)
  refine va_put (D := (dC, dI)) (ci := 6) (v := .int (nI 0)) (ty := .int) (C := R_Rc) (T := F_Rc) (N := 17) hx hb hts i_Rc t_Rc t_Rc_ok n_Rc hown hK hP hD hS 0 rfl rfl 0 (by decide) (hts _ gw_469) (fun _ h9 => h9) rfl (by decide +kernel) rfl rfl (Nat.le_of_ble_eq_true rfl) d_Rc_split_2 (fun H locs hP hD hS => ?_)
  have hP : va_P (dC, dI) classes [(h, .inr (6, [.int (nI 0), rc_stock, rc_text, rc_maker, .ref tp, rc_oldTotal, rc_file, .ref naA, .ref nlA, rc_sorts, rc_sums, rc_common, rc_deleted, rc_deletedTotal, rc_kept, rc_keptNew, rc_keptTotal])), (tp, .inl (cB, 65536, .inl tf)), (naA, .inl (cI, 200, .inl na)), (nlA, .inl (cI, 200, .inl nl))] H := hP
  have hD : va_D A [(h, .inr (6, [.int (nI 0), rc_stock, rc_text, rc_maker, .ref tp, rc_oldTotal, rc_file, .ref naA, .ref nlA, rc_sorts, rc_sums, rc_common, rc_deleted, rc_deletedTotal, rc_kept, rc_keptNew, rc_keptTotal])), (tp, .inl (cB, 65536, .inl tf)), (naA, .inl (cI, 200, .inl na)), (nlA, .inl (cI, 200, .inl nl))] := hD
  refine lv_iconst (v := 0) hx hb d_Rc_split_5 (by decide) ?_
  refine lv_istore_n (lv' := [(2, .int 0), (0, .ref h), (1, .int (nI nn))]) hx hb d_Rc_split_6 rfl hl (by decide) rfl (fun ls hl => ?_)
  refine lv_iconst (v := 0) hx hb d_Rc_split_7 (by decide) ?_
  refine lv_istore_n (lv' := [(3, .int 0), (2, .int 0), (0, .ref h), (1, .int (nI nn))]) hx hb d_Rc_split_8 rfl hl (by decide) rfl (fun ls hl => ?_)
  have loop_9 : ∀ (n9 : Nat) (k : Nat) (nau : Nat → Int32) (nlu : Nat → Int32) (H : Heap) (locs : List Loc) (ls : Array Slot), nn - k < n9 → (k ≤ nn) → (spR nau nlu (spT tf nn k)) → (∀ x, x ∈ (spT tf nn k) → x.2 ≤ 500) → va_P (dC, dI) classes [(h, .inr (6, [.int (nI (spN tf nn k)), rc_stock, rc_text, rc_maker, .ref tp, rc_oldTotal, rc_file, .ref naA, .ref nlA, rc_sorts, rc_sums, rc_common, rc_deleted, rc_deletedTotal, rc_kept, rc_keptNew, rc_keptTotal])), (tp, .inl (cB, 65536, .inl tf)), (naA, .inl (cI, 200, .inl nau)), (nlA, .inl (cI, 200, .inl nlu))] H → va_D A [(h, .inr (6, [.int (nI (spN tf nn k)), rc_stock, rc_text, rc_maker, .ref tp, rc_oldTotal, rc_file, .ref naA, .ref nlA, rc_sorts, rc_sums, rc_common, rc_deleted, rc_deletedTotal, rc_kept, rc_keptNew, rc_keptTotal])), (tp, .inl (cB, 65536, .inl tf)), (naA, .inl (cI, 200, .inl nau)), (nlA, .inl (cI, 200, .inl nlu))] → va_S A s.heap H locs → lv_has ls 4 [(0, .ref h), (1, .int (nI nn)), (2, .int (nI (spA tf nn k))), (3, .int (nI k))] → W p l e (headSpec ws_Rc_split ({ frames := 0, cells := 0, slots := 0, locals := 0 })).room s m ([.ref h, .int (nI nn)] : List Value).toArray below meth c H locs 0 0 Q (F0 m 9 ls []) := by
    intro n9
    induction n9 with
    | zero => intro k nau nlu H locs ls hm; exact absurd hm (Nat.not_lt_zero _)
    | succ n9 ih_9 =>
      intro k nau nlu H locs ls hm hk hsr hok hP hD hS hl
      have hsa := spA_le tf nn k
      have hsn := spN_le tf nn k
      refine lv_iload_n hx hb d_Rc_split_9 rfl (lv_at hl 3 rfl) ?_
      refine lv_iload_n hx hb d_Rc_split_10 rfl (lv_at hl 1 rfl) ?_
      refine lv_icmp_ge (tgt := 99) hx hb d_Rc_split_11 (by decide) (fun c_11 => ?_) (fun c_11 => ?_)
      · have n_11 : nn ≤ k := (nI_leI (a := nn) (b := k) (by omega) (by omega)).mp c_11
        refine lv_iconst (v := 1) hx hb d_Rc_split_99 (by decide) ?_
        have hkT : k = nn := by omega
        rw [hkT] at hsr hok hP hD
        rw [← hQe]
        exact W.zret (v := 1) hx hb hr nz_b1 (fun t ht hW => ⟨⟨_, (nau, nlu, spN tf nn nn), rfl, Or.inl ⟨rfl, hok, hsr, rfl⟩, by rw [ht]; exact hP, va_K.moved hW.alike hK, hD⟩, hS.F ht⟩) hS.2.2 d_Rc_split_100
      · have n_11 : k < nn := Nat.lt_of_not_le (fun z => c_11 ((nI_leI (a := nn) (b := k) (by omega) (by omega)).mpr z))
        refine lv_aload_n hx hb d_Rc_split_14 rfl (lv_at hl 0 rfl) ?_
        refine va_get (D := (dC, dI)) (ci := 6) (v := .ref tp) (C := R_Rc) (T := F_Rc) (N := 17) hx hb hts i_Rc hown hK hP 0 rfl rfl 4 (by decide) (hts _ gw_474) (fun _ h9 => h9) rfl d_Rc_split_15 ?_
        refine lv_iload_n hx hb d_Rc_split_18 rfl (lv_at hl 3 rfl) ?_
        refine va_bald hx hb hK hP 1 1 rfl rfl (vp_in_nI (by omega) (by omega)) d_Rc_split_19 ?_
        rw [show (nI k).toNatClampNeg = k from nI_clamp (by omega)]
        refine lv_bipush (v := 10) hx hb d_Rc_split_20 (by decide) ?_
        refine lv_icmp_eq (tgt := 32) hx hb d_Rc_split_22 (by decide) (fun c_22 => ?_) (fun c_22 => ?_)
        · have hct : tf k = 10 ∨ k + 1 = nn := Or.inl c_22
          refine lv_iload_n hx hb d_Rc_split_32 rfl (lv_at hl 3 rfl) ?_
          refine lv_iconst (v := 1) hx hb d_Rc_split_33 (by decide) ?_
          refine lv_iadd hx hb d_Rc_split_34 ?_
          refine lv_topi (fun x_2 ex_2 => ?_)
          obtain rfl : x_2 = nI (k + 1) := by rw [ex_2]; first | done | (exact nI_add _ _)
          refine lv_iload_n hx hb d_Rc_split_35 rfl (lv_at hl 2 rfl) ?_
          refine lv_isub hx hb d_Rc_split_36 ?_
          refine lv_topi (fun x_3 ex_3 => ?_)
          obtain rfl : x_3 = nI (k + 1 - (spA tf nn k)) := by rw [ex_3]; first | done | (exact nI_subN (by omega))
          refine lv_sipush (v := 500) hx hb d_Rc_split_37 (by decide) ?_
          refine lv_icmp_le (tgt := 45) hx hb d_Rc_split_40 (by decide) (fun c_40 => ?_) (fun c_40 => ?_)
          · have n_40 : (k + 1 - (spA tf nn k)) ≤ 500 := (nI_leI (a := (k + 1 - (spA tf nn k))) (b := 500) (by omega) (by omega)).mp c_40
            refine lv_aload_n hx hb d_Rc_split_45 rfl (lv_at hl 0 rfl) ?_
            refine va_get (D := (dC, dI)) (ci := 6) (v := .int (nI (spN tf nn k))) (C := R_Rc) (T := F_Rc) (N := 17) hx hb hts i_Rc hown hK hP 0 rfl rfl 0 (by decide) (hts _ gw_469) (fun _ h9 => h9) rfl d_Rc_split_46 ?_
            refine lv_sipush (v := 200) hx hb d_Rc_split_49 (by decide) ?_
            refine lv_icmp_ge (tgt := 79) hx hb d_Rc_split_52 (by decide) (fun c_52 => ?_) (fun c_52 => ?_)
            · have n_52 : 200 ≤ (spN tf nn k) := (nI_leI (a := 200) (b := (spN tf nn k)) (by omega) (by omega)).mp c_52
              refine lv_aload_n hx hb d_Rc_split_79 rfl (lv_at hl 0 rfl) ?_
              refine lv_dup hx hb d_Rc_split_80 rfl ?_
              refine va_get (D := (dC, dI)) (ci := 6) (v := .int (nI (spN tf nn k))) (C := R_Rc) (T := F_Rc) (N := 17) hx hb hts i_Rc hown hK hP 0 rfl rfl 0 (by decide) (hts _ gw_469) (fun _ h9 => h9) rfl d_Rc_split_81 ?_
              refine lv_iconst (v := 1) hx hb d_Rc_split_84 (by decide) ?_
              refine lv_iadd hx hb d_Rc_split_85 ?_
              refine lv_topi (fun x_4 ex_4 => ?_)
              obtain rfl : x_4 = nI (spN tf nn k + 1) := by rw [ex_4]; first | done | (exact nI_add _ _)
              refine va_put (D := (dC, dI)) (ci := 6) (v := .int (nI (spN tf nn k + 1))) (ty := .int) (C := R_Rc) (T := F_Rc) (N := 17) hx hb hts i_Rc t_Rc t_Rc_ok n_Rc hown hK hP hD hS 0 rfl rfl 0 (by decide) (hts _ gw_469) (fun _ h9 => h9) rfl (by decide +kernel) rfl rfl (Nat.le_of_ble_eq_true rfl) d_Rc_split_86 (fun H locs hP hD hS => ?_)
              have hP : va_P (dC, dI) classes [(h, .inr (6, [.int (nI (spN tf nn k + 1)), rc_stock, rc_text, rc_maker, .ref tp, rc_oldTotal, rc_file, .ref naA, .ref nlA, rc_sorts, rc_sums, rc_common, rc_deleted, rc_deletedTotal, rc_kept, rc_keptNew, rc_keptTotal])), (tp, .inl (cB, 65536, .inl tf)), (naA, .inl (cI, 200, .inl nau)), (nlA, .inl (cI, 200, .inl nlu))] H := hP
              have hD : va_D A [(h, .inr (6, [.int (nI (spN tf nn k + 1)), rc_stock, rc_text, rc_maker, .ref tp, rc_oldTotal, rc_file, .ref naA, .ref nlA, rc_sorts, rc_sums, rc_common, rc_deleted, rc_deletedTotal, rc_kept, rc_keptNew, rc_keptTotal])), (tp, .inl (cB, 65536, .inl tf)), (naA, .inl (cI, 200, .inl nau)), (nlA, .inl (cI, 200, .inl nlu))] := hD
              refine lv_iload_n hx hb d_Rc_split_89 rfl (lv_at hl 3 rfl) ?_
              refine lv_iconst (v := 1) hx hb d_Rc_split_90 (by decide) ?_
              refine lv_iadd hx hb d_Rc_split_91 ?_
              refine lv_topi (fun x_5 ex_5 => ?_)
              obtain rfl : x_5 = nI (k + 1) := by rw [ex_5]; first | done | (exact nI_add _ _)
              refine lv_istore_n (lv' := [(2, .int (nI (k + 1))), (0, .ref h), (1, .int (nI nn)), (3, .int (nI k))]) hx hb d_Rc_split_92 rfl hl (by decide) rfl (fun ls hl => ?_)
              rw [show nI (k + 1) = nI (spA tf nn (k + 1)) from congrArg nI (spS_yes hct).1.symm] at hl
              rw [show nI (spN tf nn k + 1) = nI (spN tf nn (k + 1)) from congrArg nI (spN_yes hct)] at hP hD
              refine lv_iinc (v := nI (k + 1)) (lv' := [(3, .int (nI (k + 1))), (2, .int (nI (spA tf nn (k + 1)))), (0, .ref h), (1, .int (nI nn))]) hx hb d_Rc_split_93 hl (k := 3) rfl (by exact nI_add _ _) (by decide) rfl (fun ls hl => ?_)
              refine lv_goto (tgt := 9) hx hb d_Rc_split_96 (by decide) ?_
              exact ih_9 (k + 1) nau nlu _ _ _ (by omega) (by omega) (by rw [(spS_yes hct).2]; exact hsr.more n_52) (by rw [(spS_yes hct).2]; exact fun x z => (List.mem_append.mp z).elim (hok x) (fun z => by rw [List.mem_singleton.mp z]; exact n_40)) hP hD hS (lv_sub hl [2, 3, 1, 0] rfl)
            · have n_52 : (spN tf nn k) < 200 := Nat.lt_of_not_le (fun z => c_52 ((nI_leI (a := 200) (b := (spN tf nn k)) (by omega) (by omega)).mpr z))
              refine lv_aload_n hx hb d_Rc_split_55 rfl (lv_at hl 0 rfl) ?_
              refine va_get (D := (dC, dI)) (ci := 6) (v := .ref naA) (C := R_Rc) (T := F_Rc) (N := 17) hx hb hts i_Rc hown hK hP 0 rfl rfl 7 (by decide) (hts _ gw_477) (fun _ h9 => h9) rfl d_Rc_split_56 ?_
              refine lv_aload_n hx hb d_Rc_split_59 rfl (lv_at hl 0 rfl) ?_
              refine va_get (D := (dC, dI)) (ci := 6) (v := .int (nI (spN tf nn k))) (C := R_Rc) (T := F_Rc) (N := 17) hx hb hts i_Rc hown hK hP 0 rfl rfl 0 (by decide) (hts _ gw_469) (fun _ h9 => h9) rfl d_Rc_split_60 ?_
              refine lv_iload_n hx hb d_Rc_split_63 rfl (lv_at hl 2 rfl) ?_
              refine va_iast hx hb hK hP hD hS 2 0 rfl rfl (vp_in_nI (by omega) (by omega)) d_Rc_split_64 (fun H locs hP hD hS => ?_)
              rw [show (nI (spN tf nn k)).toNatClampNeg = (spN tf nn k) from nI_clamp (by omega)] at hP hD
              have hP : va_P (dC, dI) classes [(h, .inr (6, [.int (nI (spN tf nn k)), rc_stock, rc_text, rc_maker, .ref tp, rc_oldTotal, rc_file, .ref naA, .ref nlA, rc_sorts, rc_sums, rc_common, rc_deleted, rc_deletedTotal, rc_kept, rc_keptNew, rc_keptTotal])), (tp, .inl (cB, 65536, .inl tf)), (naA, .inl (cI, 200, .inl (upd nau (spN tf nn k) (nI (spA tf nn k))))), (nlA, .inl (cI, 200, .inl nlu))] H := hP
              have hD : va_D A [(h, .inr (6, [.int (nI (spN tf nn k)), rc_stock, rc_text, rc_maker, .ref tp, rc_oldTotal, rc_file, .ref naA, .ref nlA, rc_sorts, rc_sums, rc_common, rc_deleted, rc_deletedTotal, rc_kept, rc_keptNew, rc_keptTotal])), (tp, .inl (cB, 65536, .inl tf)), (naA, .inl (cI, 200, .inl (upd nau (spN tf nn k) (nI (spA tf nn k))))), (nlA, .inl (cI, 200, .inl nlu))] := hD
              refine lv_aload_n hx hb d_Rc_split_65 rfl (lv_at hl 0 rfl) ?_
              refine va_get (D := (dC, dI)) (ci := 6) (v := .ref nlA) (C := R_Rc) (T := F_Rc) (N := 17) hx hb hts i_Rc hown hK hP 0 rfl rfl 8 (by decide) (hts _ gw_478) (fun _ h9 => h9) rfl d_Rc_split_66 ?_
              refine lv_aload_n hx hb d_Rc_split_69 rfl (lv_at hl 0 rfl) ?_
              refine va_get (D := (dC, dI)) (ci := 6) (v := .int (nI (spN tf nn k))) (C := R_Rc) (T := F_Rc) (N := 17) hx hb hts i_Rc hown hK hP 0 rfl rfl 0 (by decide) (hts _ gw_469) (fun _ h9 => h9) rfl d_Rc_split_70 ?_
              refine lv_iload_n hx hb d_Rc_split_73 rfl (lv_at hl 3 rfl) ?_
              refine lv_iconst (v := 1) hx hb d_Rc_split_74 (by decide) ?_
              refine lv_iadd hx hb d_Rc_split_75 ?_
              refine lv_topi (fun x_6 ex_6 => ?_)
              obtain rfl : x_6 = nI (k + 1) := by rw [ex_6]; first | done | (exact nI_add _ _)
              refine lv_iload_n hx hb d_Rc_split_76 rfl (lv_at hl 2 rfl) ?_
              refine lv_isub hx hb d_Rc_split_77 ?_
              refine lv_topi (fun x_7 ex_7 => ?_)
              obtain rfl : x_7 = nI (k + 1 - (spA tf nn k)) := by rw [ex_7]; first | done | (exact nI_subN (by omega))
              refine va_iast hx hb hK hP hD hS 3 0 rfl rfl (vp_in_nI (by omega) (by omega)) d_Rc_split_78 (fun H locs hP hD hS => ?_)
              rw [show (nI (spN tf nn k)).toNatClampNeg = (spN tf nn k) from nI_clamp (by omega)] at hP hD
              have hP : va_P (dC, dI) classes [(h, .inr (6, [.int (nI (spN tf nn k)), rc_stock, rc_text, rc_maker, .ref tp, rc_oldTotal, rc_file, .ref naA, .ref nlA, rc_sorts, rc_sums, rc_common, rc_deleted, rc_deletedTotal, rc_kept, rc_keptNew, rc_keptTotal])), (tp, .inl (cB, 65536, .inl tf)), (naA, .inl (cI, 200, .inl (upd nau (spN tf nn k) (nI (spA tf nn k))))), (nlA, .inl (cI, 200, .inl (upd nlu (spN tf nn k) (nI (k + 1 - (spA tf nn k))))))] H := hP
              have hD : va_D A [(h, .inr (6, [.int (nI (spN tf nn k)), rc_stock, rc_text, rc_maker, .ref tp, rc_oldTotal, rc_file, .ref naA, .ref nlA, rc_sorts, rc_sums, rc_common, rc_deleted, rc_deletedTotal, rc_kept, rc_keptNew, rc_keptTotal])), (tp, .inl (cB, 65536, .inl tf)), (naA, .inl (cI, 200, .inl (upd nau (spN tf nn k) (nI (spA tf nn k))))), (nlA, .inl (cI, 200, .inl (upd nlu (spN tf nn k) (nI (k + 1 - (spA tf nn k))))))] := hD
              refine lv_aload_n hx hb d_Rc_split_79 rfl (lv_at hl 0 rfl) ?_
              refine lv_dup hx hb d_Rc_split_80 rfl ?_
              refine va_get (D := (dC, dI)) (ci := 6) (v := .int (nI (spN tf nn k))) (C := R_Rc) (T := F_Rc) (N := 17) hx hb hts i_Rc hown hK hP 0 rfl rfl 0 (by decide) (hts _ gw_469) (fun _ h9 => h9) rfl d_Rc_split_81 ?_
              refine lv_iconst (v := 1) hx hb d_Rc_split_84 (by decide) ?_
              refine lv_iadd hx hb d_Rc_split_85 ?_
              refine lv_topi (fun x_8 ex_8 => ?_)
              obtain rfl : x_8 = nI (spN tf nn k + 1) := by rw [ex_8]; first | done | (exact nI_add _ _)
              refine va_put (D := (dC, dI)) (ci := 6) (v := .int (nI (spN tf nn k + 1))) (ty := .int) (C := R_Rc) (T := F_Rc) (N := 17) hx hb hts i_Rc t_Rc t_Rc_ok n_Rc hown hK hP hD hS 0 rfl rfl 0 (by decide) (hts _ gw_469) (fun _ h9 => h9) rfl (by decide +kernel) rfl rfl (Nat.le_of_ble_eq_true rfl) d_Rc_split_86 (fun H locs hP hD hS => ?_)
              have hP : va_P (dC, dI) classes [(h, .inr (6, [.int (nI (spN tf nn k + 1)), rc_stock, rc_text, rc_maker, .ref tp, rc_oldTotal, rc_file, .ref naA, .ref nlA, rc_sorts, rc_sums, rc_common, rc_deleted, rc_deletedTotal, rc_kept, rc_keptNew, rc_keptTotal])), (tp, .inl (cB, 65536, .inl tf)), (naA, .inl (cI, 200, .inl (upd nau (spN tf nn k) (nI (spA tf nn k))))), (nlA, .inl (cI, 200, .inl (upd nlu (spN tf nn k) (nI (k + 1 - (spA tf nn k))))))] H := hP
              have hD : va_D A [(h, .inr (6, [.int (nI (spN tf nn k + 1)), rc_stock, rc_text, rc_maker, .ref tp, rc_oldTotal, rc_file, .ref naA, .ref nlA, rc_sorts, rc_sums, rc_common, rc_deleted, rc_deletedTotal, rc_kept, rc_keptNew, rc_keptTotal])), (tp, .inl (cB, 65536, .inl tf)), (naA, .inl (cI, 200, .inl (upd nau (spN tf nn k) (nI (spA tf nn k))))), (nlA, .inl (cI, 200, .inl (upd nlu (spN tf nn k) (nI (k + 1 - (spA tf nn k))))))] := hD
              refine lv_iload_n hx hb d_Rc_split_89 rfl (lv_at hl 3 rfl) ?_
              refine lv_iconst (v := 1) hx hb d_Rc_split_90 (by decide) ?_
              refine lv_iadd hx hb d_Rc_split_91 ?_
              refine lv_topi (fun x_9 ex_9 => ?_)
              obtain rfl : x_9 = nI (k + 1) := by rw [ex_9]; first | done | (exact nI_add _ _)
              refine lv_istore_n (lv' := [(2, .int (nI (k + 1))), (0, .ref h), (1, .int (nI nn)), (3, .int (nI k))]) hx hb d_Rc_split_92 rfl hl (by decide) rfl (fun ls hl => ?_)
              rw [show nI (k + 1) = nI (spA tf nn (k + 1)) from congrArg nI (spS_yes hct).1.symm] at hl
              rw [show nI (spN tf nn k + 1) = nI (spN tf nn (k + 1)) from congrArg nI (spN_yes hct)] at hP hD
              refine lv_iinc (v := nI (k + 1)) (lv' := [(3, .int (nI (k + 1))), (2, .int (nI (spA tf nn (k + 1)))), (0, .ref h), (1, .int (nI nn))]) hx hb d_Rc_split_93 hl (k := 3) rfl (by exact nI_add _ _) (by decide) rfl (fun ls hl => ?_)
              refine lv_goto (tgt := 9) hx hb d_Rc_split_96 (by decide) ?_
              exact ih_9 (k + 1) (upd nau (spN tf nn k) (nI (spA tf nn k))) (upd nlu (spN tf nn k) (nI (k + 1 - (spA tf nn k)))) _ _ _ (by omega) (by omega) (by rw [(spS_yes hct).2]; exact hsr.push) (by rw [(spS_yes hct).2]; exact fun x z => (List.mem_append.mp z).elim (hok x) (fun z => by rw [List.mem_singleton.mp z]; exact n_40)) hP hD hS (lv_sub hl [2, 3, 1, 0] rfl)
          · have n_40 : 500 < (k + 1 - (spA tf nn k)) := Nat.lt_of_not_le (fun z => c_40 ((nI_leI (a := (k + 1 - (spA tf nn k))) (b := 500) (by omega) (by omega)).mpr z))
            refine lv_iconst (v := 0) hx hb d_Rc_split_43 (by decide) ?_
            rw [← hQe]
            exact W.zret (v := 0) hx hb hr nz_b0 (fun t ht hW => ⟨⟨_, (nau, nlu, (spN tf nn k)), rfl, Or.inr ⟨rfl, ((spA tf nn k), k + 1 - (spA tf nn k)), spT_mono (j := k + 1) (by rw [(spS_yes hct).2]; exact List.mem_append_right _ (List.mem_singleton.mpr rfl)) (by omega), n_40⟩, by rw [ht]; exact hP, va_K.moved hW.alike hK, hD⟩, hS.F ht⟩) hS.2.2 d_Rc_split_44
        · refine lv_iload_n hx hb d_Rc_split_25 rfl (lv_at hl 3 rfl) ?_
          refine lv_iload_n hx hb d_Rc_split_26 rfl (lv_at hl 1 rfl) ?_
          refine lv_iconst (v := 1) hx hb d_Rc_split_27 (by decide) ?_
          refine lv_isub hx hb d_Rc_split_28 ?_
          refine lv_topi (fun x_10 ex_10 => ?_)
          obtain rfl : x_10 = nI (nn - 1) := by rw [ex_10]; first | done | (exact nI_subN (b := 1) (by omega))
          refine lv_icmp_ne (tgt := 93) hx hb d_Rc_split_29 (by decide) (fun c_29 => ?_) (fun c_29 => ?_)
          · have n_29 : ¬ k = (nn - 1) := fun z => c_29 ((nI_eq (a := k) (b := (nn - 1)) (by omega) (by omega)).mpr z)
            have hct : ¬ (tf k = 10 ∨ k + 1 = nn) := fun z => z.elim c_22 (fun z => n_29 (by omega))
            rw [show nI (spA tf nn k) = nI (spA tf nn (k + 1)) from congrArg nI (spS_no hct).1.symm] at hl
            rw [show nI (spN tf nn k) = nI (spN tf nn (k + 1)) from congrArg nI (spN_no hct)] at hP hD
            refine lv_iinc (v := nI (k + 1)) (lv' := [(3, .int (nI (k + 1))), (0, .ref h), (1, .int (nI nn)), (2, .int (nI (spA tf nn (k + 1))))]) hx hb d_Rc_split_93 hl (k := 3) rfl (by exact nI_add _ _) (by decide) rfl (fun ls hl => ?_)
            refine lv_goto (tgt := 9) hx hb d_Rc_split_96 (by decide) ?_
            exact ih_9 (k + 1) nau nlu _ _ _ (by omega) (by omega) (by rw [(spS_no hct).2]; exact hsr) (by rw [(spS_no hct).2]; exact hok) hP hD hS (lv_sub hl [1, 2, 3, 0] rfl)
          · have n_29 : k = (nn - 1) := (nI_eq (a := k) (b := (nn - 1)) (by omega) (by omega)).mp c_29
            have hct : tf k = 10 ∨ k + 1 = nn := Or.inr (by omega)
            refine lv_iload_n hx hb d_Rc_split_32 rfl (lv_at hl 3 rfl) ?_
            refine lv_iconst (v := 1) hx hb d_Rc_split_33 (by decide) ?_
            refine lv_iadd hx hb d_Rc_split_34 ?_
            refine lv_topi (fun x_11 ex_11 => ?_)
            obtain rfl : x_11 = nI (k + 1) := by rw [ex_11]; first | done | (exact nI_add _ _)
            refine lv_iload_n hx hb d_Rc_split_35 rfl (lv_at hl 2 rfl) ?_
            refine lv_isub hx hb d_Rc_split_36 ?_
            refine lv_topi (fun x_12 ex_12 => ?_)
            obtain rfl : x_12 = nI (k + 1 - (spA tf nn k)) := by rw [ex_12]; first | done | (exact nI_subN (by omega))
            refine lv_sipush (v := 500) hx hb d_Rc_split_37 (by decide) ?_
            refine lv_icmp_le (tgt := 45) hx hb d_Rc_split_40 (by decide) (fun c_40 => ?_) (fun c_40 => ?_)
            · have n_40 : (k + 1 - (spA tf nn k)) ≤ 500 := (nI_leI (a := (k + 1 - (spA tf nn k))) (b := 500) (by omega) (by omega)).mp c_40
              refine lv_aload_n hx hb d_Rc_split_45 rfl (lv_at hl 0 rfl) ?_
              refine va_get (D := (dC, dI)) (ci := 6) (v := .int (nI (spN tf nn k))) (C := R_Rc) (T := F_Rc) (N := 17) hx hb hts i_Rc hown hK hP 0 rfl rfl 0 (by decide) (hts _ gw_469) (fun _ h9 => h9) rfl d_Rc_split_46 ?_
              refine lv_sipush (v := 200) hx hb d_Rc_split_49 (by decide) ?_
              refine lv_icmp_ge (tgt := 79) hx hb d_Rc_split_52 (by decide) (fun c_52 => ?_) (fun c_52 => ?_)
              · have n_52 : 200 ≤ (spN tf nn k) := (nI_leI (a := 200) (b := (spN tf nn k)) (by omega) (by omega)).mp c_52
                refine lv_aload_n hx hb d_Rc_split_79 rfl (lv_at hl 0 rfl) ?_
                refine lv_dup hx hb d_Rc_split_80 rfl ?_
                refine va_get (D := (dC, dI)) (ci := 6) (v := .int (nI (spN tf nn k))) (C := R_Rc) (T := F_Rc) (N := 17) hx hb hts i_Rc hown hK hP 0 rfl rfl 0 (by decide) (hts _ gw_469) (fun _ h9 => h9) rfl d_Rc_split_81 ?_
                refine lv_iconst (v := 1) hx hb d_Rc_split_84 (by decide) ?_
                refine lv_iadd hx hb d_Rc_split_85 ?_
                refine lv_topi (fun x_13 ex_13 => ?_)
                obtain rfl : x_13 = nI (spN tf nn k + 1) := by rw [ex_13]; first | done | (exact nI_add _ _)
                refine va_put (D := (dC, dI)) (ci := 6) (v := .int (nI (spN tf nn k + 1))) (ty := .int) (C := R_Rc) (T := F_Rc) (N := 17) hx hb hts i_Rc t_Rc t_Rc_ok n_Rc hown hK hP hD hS 0 rfl rfl 0 (by decide) (hts _ gw_469) (fun _ h9 => h9) rfl (by decide +kernel) rfl rfl (Nat.le_of_ble_eq_true rfl) d_Rc_split_86 (fun H locs hP hD hS => ?_)
                have hP : va_P (dC, dI) classes [(h, .inr (6, [.int (nI (spN tf nn k + 1)), rc_stock, rc_text, rc_maker, .ref tp, rc_oldTotal, rc_file, .ref naA, .ref nlA, rc_sorts, rc_sums, rc_common, rc_deleted, rc_deletedTotal, rc_kept, rc_keptNew, rc_keptTotal])), (tp, .inl (cB, 65536, .inl tf)), (naA, .inl (cI, 200, .inl nau)), (nlA, .inl (cI, 200, .inl nlu))] H := hP
                have hD : va_D A [(h, .inr (6, [.int (nI (spN tf nn k + 1)), rc_stock, rc_text, rc_maker, .ref tp, rc_oldTotal, rc_file, .ref naA, .ref nlA, rc_sorts, rc_sums, rc_common, rc_deleted, rc_deletedTotal, rc_kept, rc_keptNew, rc_keptTotal])), (tp, .inl (cB, 65536, .inl tf)), (naA, .inl (cI, 200, .inl nau)), (nlA, .inl (cI, 200, .inl nlu))] := hD
                refine lv_iload_n hx hb d_Rc_split_89 rfl (lv_at hl 3 rfl) ?_
                refine lv_iconst (v := 1) hx hb d_Rc_split_90 (by decide) ?_
                refine lv_iadd hx hb d_Rc_split_91 ?_
                refine lv_topi (fun x_14 ex_14 => ?_)
                obtain rfl : x_14 = nI (k + 1) := by rw [ex_14]; first | done | (exact nI_add _ _)
                refine lv_istore_n (lv' := [(2, .int (nI (k + 1))), (0, .ref h), (1, .int (nI nn)), (3, .int (nI k))]) hx hb d_Rc_split_92 rfl hl (by decide) rfl (fun ls hl => ?_)
                rw [show nI (k + 1) = nI (spA tf nn (k + 1)) from congrArg nI (spS_yes hct).1.symm] at hl
                rw [show nI (spN tf nn k + 1) = nI (spN tf nn (k + 1)) from congrArg nI (spN_yes hct)] at hP hD
                refine lv_iinc (v := nI (k + 1)) (lv' := [(3, .int (nI (k + 1))), (2, .int (nI (spA tf nn (k + 1)))), (0, .ref h), (1, .int (nI nn))]) hx hb d_Rc_split_93 hl (k := 3) rfl (by exact nI_add _ _) (by decide) rfl (fun ls hl => ?_)
                refine lv_goto (tgt := 9) hx hb d_Rc_split_96 (by decide) ?_
                exact ih_9 (k + 1) nau nlu _ _ _ (by omega) (by omega) (by rw [(spS_yes hct).2]; exact hsr.more n_52) (by rw [(spS_yes hct).2]; exact fun x z => (List.mem_append.mp z).elim (hok x) (fun z => by rw [List.mem_singleton.mp z]; exact n_40)) hP hD hS (lv_sub hl [2, 3, 1, 0] rfl)
              · have n_52 : (spN tf nn k) < 200 := Nat.lt_of_not_le (fun z => c_52 ((nI_leI (a := 200) (b := (spN tf nn k)) (by omega) (by omega)).mpr z))
                refine lv_aload_n hx hb d_Rc_split_55 rfl (lv_at hl 0 rfl) ?_
                refine va_get (D := (dC, dI)) (ci := 6) (v := .ref naA) (C := R_Rc) (T := F_Rc) (N := 17) hx hb hts i_Rc hown hK hP 0 rfl rfl 7 (by decide) (hts _ gw_477) (fun _ h9 => h9) rfl d_Rc_split_56 ?_
                refine lv_aload_n hx hb d_Rc_split_59 rfl (lv_at hl 0 rfl) ?_
                refine va_get (D := (dC, dI)) (ci := 6) (v := .int (nI (spN tf nn k))) (C := R_Rc) (T := F_Rc) (N := 17) hx hb hts i_Rc hown hK hP 0 rfl rfl 0 (by decide) (hts _ gw_469) (fun _ h9 => h9) rfl d_Rc_split_60 ?_
                refine lv_iload_n hx hb d_Rc_split_63 rfl (lv_at hl 2 rfl) ?_
                refine va_iast hx hb hK hP hD hS 2 0 rfl rfl (vp_in_nI (by omega) (by omega)) d_Rc_split_64 (fun H locs hP hD hS => ?_)
                rw [show (nI (spN tf nn k)).toNatClampNeg = (spN tf nn k) from nI_clamp (by omega)] at hP hD
                have hP : va_P (dC, dI) classes [(h, .inr (6, [.int (nI (spN tf nn k)), rc_stock, rc_text, rc_maker, .ref tp, rc_oldTotal, rc_file, .ref naA, .ref nlA, rc_sorts, rc_sums, rc_common, rc_deleted, rc_deletedTotal, rc_kept, rc_keptNew, rc_keptTotal])), (tp, .inl (cB, 65536, .inl tf)), (naA, .inl (cI, 200, .inl (upd nau (spN tf nn k) (nI (spA tf nn k))))), (nlA, .inl (cI, 200, .inl nlu))] H := hP
                have hD : va_D A [(h, .inr (6, [.int (nI (spN tf nn k)), rc_stock, rc_text, rc_maker, .ref tp, rc_oldTotal, rc_file, .ref naA, .ref nlA, rc_sorts, rc_sums, rc_common, rc_deleted, rc_deletedTotal, rc_kept, rc_keptNew, rc_keptTotal])), (tp, .inl (cB, 65536, .inl tf)), (naA, .inl (cI, 200, .inl (upd nau (spN tf nn k) (nI (spA tf nn k))))), (nlA, .inl (cI, 200, .inl nlu))] := hD
                refine lv_aload_n hx hb d_Rc_split_65 rfl (lv_at hl 0 rfl) ?_
                refine va_get (D := (dC, dI)) (ci := 6) (v := .ref nlA) (C := R_Rc) (T := F_Rc) (N := 17) hx hb hts i_Rc hown hK hP 0 rfl rfl 8 (by decide) (hts _ gw_478) (fun _ h9 => h9) rfl d_Rc_split_66 ?_
                refine lv_aload_n hx hb d_Rc_split_69 rfl (lv_at hl 0 rfl) ?_
                refine va_get (D := (dC, dI)) (ci := 6) (v := .int (nI (spN tf nn k))) (C := R_Rc) (T := F_Rc) (N := 17) hx hb hts i_Rc hown hK hP 0 rfl rfl 0 (by decide) (hts _ gw_469) (fun _ h9 => h9) rfl d_Rc_split_70 ?_
                refine lv_iload_n hx hb d_Rc_split_73 rfl (lv_at hl 3 rfl) ?_
                refine lv_iconst (v := 1) hx hb d_Rc_split_74 (by decide) ?_
                refine lv_iadd hx hb d_Rc_split_75 ?_
                refine lv_topi (fun x_15 ex_15 => ?_)
                obtain rfl : x_15 = nI (k + 1) := by rw [ex_15]; first | done | (exact nI_add _ _)
                refine lv_iload_n hx hb d_Rc_split_76 rfl (lv_at hl 2 rfl) ?_
                refine lv_isub hx hb d_Rc_split_77 ?_
                refine lv_topi (fun x_16 ex_16 => ?_)
                obtain rfl : x_16 = nI (k + 1 - (spA tf nn k)) := by rw [ex_16]; first | done | (exact nI_subN (by omega))
                refine va_iast hx hb hK hP hD hS 3 0 rfl rfl (vp_in_nI (by omega) (by omega)) d_Rc_split_78 (fun H locs hP hD hS => ?_)
                rw [show (nI (spN tf nn k)).toNatClampNeg = (spN tf nn k) from nI_clamp (by omega)] at hP hD
                have hP : va_P (dC, dI) classes [(h, .inr (6, [.int (nI (spN tf nn k)), rc_stock, rc_text, rc_maker, .ref tp, rc_oldTotal, rc_file, .ref naA, .ref nlA, rc_sorts, rc_sums, rc_common, rc_deleted, rc_deletedTotal, rc_kept, rc_keptNew, rc_keptTotal])), (tp, .inl (cB, 65536, .inl tf)), (naA, .inl (cI, 200, .inl (upd nau (spN tf nn k) (nI (spA tf nn k))))), (nlA, .inl (cI, 200, .inl (upd nlu (spN tf nn k) (nI (k + 1 - (spA tf nn k))))))] H := hP
                have hD : va_D A [(h, .inr (6, [.int (nI (spN tf nn k)), rc_stock, rc_text, rc_maker, .ref tp, rc_oldTotal, rc_file, .ref naA, .ref nlA, rc_sorts, rc_sums, rc_common, rc_deleted, rc_deletedTotal, rc_kept, rc_keptNew, rc_keptTotal])), (tp, .inl (cB, 65536, .inl tf)), (naA, .inl (cI, 200, .inl (upd nau (spN tf nn k) (nI (spA tf nn k))))), (nlA, .inl (cI, 200, .inl (upd nlu (spN tf nn k) (nI (k + 1 - (spA tf nn k))))))] := hD
                refine lv_aload_n hx hb d_Rc_split_79 rfl (lv_at hl 0 rfl) ?_
                refine lv_dup hx hb d_Rc_split_80 rfl ?_
                refine va_get (D := (dC, dI)) (ci := 6) (v := .int (nI (spN tf nn k))) (C := R_Rc) (T := F_Rc) (N := 17) hx hb hts i_Rc hown hK hP 0 rfl rfl 0 (by decide) (hts _ gw_469) (fun _ h9 => h9) rfl d_Rc_split_81 ?_
                refine lv_iconst (v := 1) hx hb d_Rc_split_84 (by decide) ?_
                refine lv_iadd hx hb d_Rc_split_85 ?_
                refine lv_topi (fun x_17 ex_17 => ?_)
                obtain rfl : x_17 = nI (spN tf nn k + 1) := by rw [ex_17]; first | done | (exact nI_add _ _)
                refine va_put (D := (dC, dI)) (ci := 6) (v := .int (nI (spN tf nn k + 1))) (ty := .int) (C := R_Rc) (T := F_Rc) (N := 17) hx hb hts i_Rc t_Rc t_Rc_ok n_Rc hown hK hP hD hS 0 rfl rfl 0 (by decide) (hts _ gw_469) (fun _ h9 => h9) rfl (by decide +kernel) rfl rfl (Nat.le_of_ble_eq_true rfl) d_Rc_split_86 (fun H locs hP hD hS => ?_)
                have hP : va_P (dC, dI) classes [(h, .inr (6, [.int (nI (spN tf nn k + 1)), rc_stock, rc_text, rc_maker, .ref tp, rc_oldTotal, rc_file, .ref naA, .ref nlA, rc_sorts, rc_sums, rc_common, rc_deleted, rc_deletedTotal, rc_kept, rc_keptNew, rc_keptTotal])), (tp, .inl (cB, 65536, .inl tf)), (naA, .inl (cI, 200, .inl (upd nau (spN tf nn k) (nI (spA tf nn k))))), (nlA, .inl (cI, 200, .inl (upd nlu (spN tf nn k) (nI (k + 1 - (spA tf nn k))))))] H := hP
                have hD : va_D A [(h, .inr (6, [.int (nI (spN tf nn k + 1)), rc_stock, rc_text, rc_maker, .ref tp, rc_oldTotal, rc_file, .ref naA, .ref nlA, rc_sorts, rc_sums, rc_common, rc_deleted, rc_deletedTotal, rc_kept, rc_keptNew, rc_keptTotal])), (tp, .inl (cB, 65536, .inl tf)), (naA, .inl (cI, 200, .inl (upd nau (spN tf nn k) (nI (spA tf nn k))))), (nlA, .inl (cI, 200, .inl (upd nlu (spN tf nn k) (nI (k + 1 - (spA tf nn k))))))] := hD
                refine lv_iload_n hx hb d_Rc_split_89 rfl (lv_at hl 3 rfl) ?_
                refine lv_iconst (v := 1) hx hb d_Rc_split_90 (by decide) ?_
                refine lv_iadd hx hb d_Rc_split_91 ?_
                refine lv_topi (fun x_18 ex_18 => ?_)
                obtain rfl : x_18 = nI (k + 1) := by rw [ex_18]; first | done | (exact nI_add _ _)
                refine lv_istore_n (lv' := [(2, .int (nI (k + 1))), (0, .ref h), (1, .int (nI nn)), (3, .int (nI k))]) hx hb d_Rc_split_92 rfl hl (by decide) rfl (fun ls hl => ?_)
                rw [show nI (k + 1) = nI (spA tf nn (k + 1)) from congrArg nI (spS_yes hct).1.symm] at hl
                rw [show nI (spN tf nn k + 1) = nI (spN tf nn (k + 1)) from congrArg nI (spN_yes hct)] at hP hD
                refine lv_iinc (v := nI (k + 1)) (lv' := [(3, .int (nI (k + 1))), (2, .int (nI (spA tf nn (k + 1)))), (0, .ref h), (1, .int (nI nn))]) hx hb d_Rc_split_93 hl (k := 3) rfl (by exact nI_add _ _) (by decide) rfl (fun ls hl => ?_)
                refine lv_goto (tgt := 9) hx hb d_Rc_split_96 (by decide) ?_
                exact ih_9 (k + 1) (upd nau (spN tf nn k) (nI (spA tf nn k))) (upd nlu (spN tf nn k) (nI (k + 1 - (spA tf nn k)))) _ _ _ (by omega) (by omega) (by rw [(spS_yes hct).2]; exact hsr.push) (by rw [(spS_yes hct).2]; exact fun x z => (List.mem_append.mp z).elim (hok x) (fun z => by rw [List.mem_singleton.mp z]; exact n_40)) hP hD hS (lv_sub hl [2, 3, 1, 0] rfl)
            · have n_40 : 500 < (k + 1 - (spA tf nn k)) := Nat.lt_of_not_le (fun z => c_40 ((nI_leI (a := (k + 1 - (spA tf nn k))) (b := 500) (by omega) (by omega)).mpr z))
              refine lv_iconst (v := 0) hx hb d_Rc_split_43 (by decide) ?_
              rw [← hQe]
              exact W.zret (v := 0) hx hb hr nz_b0 (fun t ht hW => ⟨⟨_, (nau, nlu, (spN tf nn k)), rfl, Or.inr ⟨rfl, ((spA tf nn k), k + 1 - (spA tf nn k)), spT_mono (j := k + 1) (by rw [(spS_yes hct).2]; exact List.mem_append_right _ (List.mem_singleton.mpr rfl)) (by omega), n_40⟩, by rw [ht]; exact hP, va_K.moved hW.alike hK, hD⟩, hS.F ht⟩) hS.2.2 d_Rc_split_44
  exact loop_9 _ 0 na nl _ _ _ (Nat.lt_succ_self _) (Nat.zero_le _) (fun i z => absurd z (Nat.not_lt_zero _)) (fun x z => by cases z) hP hD hS (lv_sub hl [2, 3, 1, 0] rfl)
end
