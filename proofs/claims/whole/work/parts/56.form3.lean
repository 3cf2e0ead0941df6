section
/-! 56.form3.lean.txt -/
theorem gw_89 : (Jvm.Cond.fieldLink "PatchStore$Form" (53 : Nat) "PatchStore$Changes" "at" "[I") ∈ xg_1 := xg_s1 89 rfl rfl
theorem gw_198 : (Jvm.Cond.fieldLink "PatchStore$Form" (45 : Nat) "PatchStore$Stock" "firstChange" "[I") ∈ xg_1 := xg_s1 198 rfl rfl
theorem gw_226 : (Jvm.Cond.fieldLink "PatchStore$Form" (49 : Nat) "PatchStore$Stock" "changes" "LPatchStore$Changes;") ∈ xg_1 := xg_s1 226 rfl rfl
theorem gw_778 : (Jvm.Cond.methodLink "PatchStore$Form" (41 : Nat) ({ cls := "PatchStore$Stock", name := "compareHashes", desc := "([BI[BI)I" } : Jvm.MethodName)) ∈ xg_1 := xg_s4 58 rfl rfl
theorem gw_785 : (Jvm.Cond.constant "PatchStore$Form" (48 : Nat) (38000 : Int32)) ∈ xg_1 := xg_s4 65 rfl rfl
theorem gw_786 : (Jvm.Cond.methodLink "PatchStore$Form" (58 : Nat) ({ cls := "PatchStore$Form", name := "changeEnd", desc := "(II)I" } : Jvm.MethodName)) ∈ xg_1 := xg_s4 66 rfl rfl
theorem gw_788 : (Jvm.Cond.instanceMethod ({ cls := "PatchStore$Form", name := "changeEnd", desc := "(II)I" } : Jvm.MethodName)) ∈ xg_1 := xg_s4 68 rfl rfl
theorem gw_789 : (Jvm.Cond.code ({ cls := "PatchStore$Form", name := "changeEnd", desc := "(II)I" } : Jvm.MethodName) prog_3_method_6_code (3 : Nat) (Option.some Jvm.ClassFile.FieldType.int)) ∈ xg_1 := xg_s4 69 rfl rfl
def y_Fo_isRising : MethodName := ⟨"PatchStore$Form", "isRising", "(II)Z"⟩
abbrev c_Fo_isRising : Cond := (Jvm.Cond.code ({ cls := "PatchStore$Form", name := "isRising", desc := "(II)Z" } : Jvm.MethodName) prog_3_method_4_code (5 : Nat) (Option.some Jvm.ClassFile.FieldType.boolean))
abbrev ws_Fo_isRising : List Cond := c_Fo_isRising :: xg_1
theorem d_Fo_isRising_0 : decode prog_3_method_4_code 0 = .ok (.iconst 1, 1) := by decide +kernel
theorem d_Fo_isRising_1 : decode prog_3_method_4_code 1 = .ok (.istore_n 3, 1) := by decide +kernel
theorem d_Fo_isRising_2 : decode prog_3_method_4_code 2 = .ok (.iload_n 3, 1) := by decide +kernel
theorem d_Fo_isRising_3 : decode prog_3_method_4_code 3 = .ok (.iload_n 2, 1) := by decide +kernel
theorem d_Fo_isRising_4 : decode prog_3_method_4_code 4 = .ok (.if_icmp .ge 46, 3) := by decide +kernel
theorem d_Fo_isRising_7 : decode prog_3_method_4_code 7 = .ok (.iload_n 1, 1) := by decide +kernel
theorem d_Fo_isRising_8 : decode prog_3_method_4_code 8 = .ok (.iload_n 3, 1) := by decide +kernel
theorem d_Fo_isRising_9 : decode prog_3_method_4_code 9 = .ok (.bipush 32, 2) := by decide +kernel
theorem d_Fo_isRising_11 : decode prog_3_method_4_code 11 = .ok (.imul, 1) := by decide +kernel
theorem d_Fo_isRising_12 : decode prog_3_method_4_code 12 = .ok (.iadd, 1) := by decide +kernel
theorem d_Fo_isRising_13 : decode prog_3_method_4_code 13 = .ok (.istore 4, 2) := by decide +kernel
theorem d_Fo_isRising_15 : decode prog_3_method_4_code 15 = .ok (.aload_n 0, 1) := by decide +kernel
theorem d_Fo_isRising_16 : decode prog_3_method_4_code 16 = .ok (.getfield 9, 3) := by decide +kernel
theorem d_Fo_isRising_19 : decode prog_3_method_4_code 19 = .ok (.getfield 37, 3) := by decide +kernel
theorem d_Fo_isRising_22 : decode prog_3_method_4_code 22 = .ok (.iload 4, 2) := by decide +kernel
theorem d_Fo_isRising_24 : decode prog_3_method_4_code 24 = .ok (.bipush 32, 2) := by decide +kernel
theorem d_Fo_isRising_26 : decode prog_3_method_4_code 26 = .ok (.isub, 1) := by decide +kernel
theorem d_Fo_isRising_27 : decode prog_3_method_4_code 27 = .ok (.aload_n 0, 1) := by decide +kernel
theorem d_Fo_isRising_28 : decode prog_3_method_4_code 28 = .ok (.getfield 9, 3) := by decide +kernel
theorem d_Fo_isRising_31 : decode prog_3_method_4_code 31 = .ok (.getfield 37, 3) := by decide +kernel
theorem d_Fo_isRising_34 : decode prog_3_method_4_code 34 = .ok (.iload 4, 2) := by decide +kernel
theorem d_Fo_isRising_36 : decode prog_3_method_4_code 36 = .ok (.invokestatic 41, 3) := by decide +kernel
theorem d_Fo_isRising_39 : decode prog_3_method_4_code 39 = .ok (.ifCond .lt 5, 3) := by decide +kernel
theorem d_Fo_isRising_42 : decode prog_3_method_4_code 42 = .ok (.iconst 0, 1) := by decide +kernel
theorem d_Fo_isRising_43 : decode prog_3_method_4_code 43 = .ok (.ireturn, 1) := by decide +kernel
theorem d_Fo_isRising_44 : decode prog_3_method_4_code 44 = .ok (.iinc 3 1, 3) := by decide +kernel
theorem d_Fo_isRising_47 : decode prog_3_method_4_code 47 = .ok (.goto (-45), 3) := by decide +kernel
theorem d_Fo_isRising_50 : decode prog_3_method_4_code 50 = .ok (.iconst 1, 1) := by decide +kernel
theorem d_Fo_isRising_51 : decode prog_3_method_4_code 51 = .ok (.ireturn, 1) := by decide +kernel
def y_Fo_changesEnd : MethodName := ⟨"PatchStore$Form", "changesEnd", "(II)I"⟩
abbrev c_Fo_changesEnd : Cond := (Jvm.Cond.code ({ cls := "PatchStore$Form", name := "changesEnd", desc := "(II)I" } : Jvm.MethodName) prog_3_method_5_code (7 : Nat) (Option.some Jvm.ClassFile.FieldType.int))
abbrev ws_Fo_changesEnd : List Cond := c_Fo_changesEnd :: xg_1
theorem d_Fo_changesEnd_0 : decode prog_3_method_5_code 0 = .ok (.aload_n 0, 1) := by decide +kernel
theorem d_Fo_changesEnd_1 : decode prog_3_method_5_code 1 = .ok (.getfield 9, 3) := by decide +kernel
theorem d_Fo_changesEnd_4 : decode prog_3_method_5_code 4 = .ok (.getfield 45, 3) := by decide +kernel
theorem d_Fo_changesEnd_7 : decode prog_3_method_5_code 7 = .ok (.aload_n 0, 1) := by decide +kernel
theorem d_Fo_changesEnd_8 : decode prog_3_method_5_code 8 = .ok (.getfield 9, 3) := by decide +kernel
theorem d_Fo_changesEnd_11 : decode prog_3_method_5_code 11 = .ok (.getfield 21, 3) := by decide +kernel
theorem d_Fo_changesEnd_14 : decode prog_3_method_5_code 14 = .ok (.iaload, 1) := by decide +kernel
theorem d_Fo_changesEnd_15 : decode prog_3_method_5_code 15 = .ok (.istore_n 3, 1) := by decide +kernel
theorem d_Fo_changesEnd_16 : decode prog_3_method_5_code 16 = .ok (.aload_n 0, 1) := by decide +kernel
theorem d_Fo_changesEnd_17 : decode prog_3_method_5_code 17 = .ok (.getfield 9, 3) := by decide +kernel
theorem d_Fo_changesEnd_20 : decode prog_3_method_5_code 20 = .ok (.iload_n 1, 1) := by decide +kernel
theorem d_Fo_changesEnd_21 : decode prog_3_method_5_code 21 = .ok (.invokevirtual 25, 3) := by decide +kernel
theorem d_Fo_changesEnd_24 : decode prog_3_method_5_code 24 = .ok (.istore 4, 2) := by decide +kernel
theorem d_Fo_changesEnd_26 : decode prog_3_method_5_code 26 = .ok (.iload 4, 2) := by decide +kernel
theorem d_Fo_changesEnd_28 : decode prog_3_method_5_code 28 = .ok (.ifCond .ne 5, 3) := by decide +kernel
theorem d_Fo_changesEnd_31 : decode prog_3_method_5_code 31 = .ok (.iconst (-1), 1) := by decide +kernel
theorem d_Fo_changesEnd_32 : decode prog_3_method_5_code 32 = .ok (.ireturn, 1) := by decide +kernel
theorem d_Fo_changesEnd_33 : decode prog_3_method_5_code 33 = .ok (.iload_n 1, 1) := by decide +kernel
theorem d_Fo_changesEnd_34 : decode prog_3_method_5_code 34 = .ok (.iconst 2, 1) := by decide +kernel
theorem d_Fo_changesEnd_35 : decode prog_3_method_5_code 35 = .ok (.iadd, 1) := by decide +kernel
theorem d_Fo_changesEnd_36 : decode prog_3_method_5_code 36 = .ok (.istore 5, 2) := by decide +kernel
theorem d_Fo_changesEnd_38 : decode prog_3_method_5_code 38 = .ok (.iconst 0, 1) := by decide +kernel
theorem d_Fo_changesEnd_39 : decode prog_3_method_5_code 39 = .ok (.istore 6, 2) := by decide +kernel
theorem d_Fo_changesEnd_41 : decode prog_3_method_5_code 41 = .ok (.iload 6, 2) := by decide +kernel
theorem d_Fo_changesEnd_43 : decode prog_3_method_5_code 43 = .ok (.iload 4, 2) := by decide +kernel
theorem d_Fo_changesEnd_45 : decode prog_3_method_5_code 45 = .ok (.if_icmp .ge 57, 3) := by decide +kernel
theorem d_Fo_changesEnd_48 : decode prog_3_method_5_code 48 = .ok (.iload 5, 2) := by decide +kernel
theorem d_Fo_changesEnd_50 : decode prog_3_method_5_code 50 = .ok (.ifCond .lt 18, 3) := by decide +kernel
theorem d_Fo_changesEnd_53 : decode prog_3_method_5_code 53 = .ok (.iload 5, 2) := by decide +kernel
theorem d_Fo_changesEnd_55 : decode prog_3_method_5_code 55 = .ok (.iload_n 2, 1) := by decide +kernel
theorem d_Fo_changesEnd_56 : decode prog_3_method_5_code 56 = .ok (.if_icmp .ge 12, 3) := by decide +kernel
theorem d_Fo_changesEnd_59 : decode prog_3_method_5_code 59 = .ok (.iload_n 3, 1) := by decide +kernel
theorem d_Fo_changesEnd_60 : decode prog_3_method_5_code 60 = .ok (.iload 6, 2) := by decide +kernel
theorem d_Fo_changesEnd_62 : decode prog_3_method_5_code 62 = .ok (.iadd, 1) := by decide +kernel
theorem d_Fo_changesEnd_63 : decode prog_3_method_5_code 63 = .ok (.ldc 48, 2) := by decide +kernel
theorem d_Fo_changesEnd_65 : decode prog_3_method_5_code 65 = .ok (.if_icmp .lt 5, 3) := by decide +kernel
theorem d_Fo_changesEnd_68 : decode prog_3_method_5_code 68 = .ok (.iconst (-1), 1) := by decide +kernel
theorem d_Fo_changesEnd_69 : decode prog_3_method_5_code 69 = .ok (.ireturn, 1) := by decide +kernel
theorem d_Fo_changesEnd_70 : decode prog_3_method_5_code 70 = .ok (.aload_n 0, 1) := by decide +kernel
theorem d_Fo_changesEnd_71 : decode prog_3_method_5_code 71 = .ok (.getfield 9, 3) := by decide +kernel
theorem d_Fo_changesEnd_74 : decode prog_3_method_5_code 74 = .ok (.getfield 49, 3) := by decide +kernel
theorem d_Fo_changesEnd_77 : decode prog_3_method_5_code 77 = .ok (.getfield 53, 3) := by decide +kernel
theorem d_Fo_changesEnd_80 : decode prog_3_method_5_code 80 = .ok (.iload_n 3, 1) := by decide +kernel
theorem d_Fo_changesEnd_81 : decode prog_3_method_5_code 81 = .ok (.iload 6, 2) := by decide +kernel
theorem d_Fo_changesEnd_83 : decode prog_3_method_5_code 83 = .ok (.iadd, 1) := by decide +kernel
theorem d_Fo_changesEnd_84 : decode prog_3_method_5_code 84 = .ok (.iload 5, 2) := by decide +kernel
theorem d_Fo_changesEnd_86 : decode prog_3_method_5_code 86 = .ok (.iastore, 1) := by decide +kernel
theorem d_Fo_changesEnd_87 : decode prog_3_method_5_code 87 = .ok (.aload_n 0, 1) := by decide +kernel
theorem d_Fo_changesEnd_88 : decode prog_3_method_5_code 88 = .ok (.iload 5, 2) := by decide +kernel
theorem d_Fo_changesEnd_90 : decode prog_3_method_5_code 90 = .ok (.iload_n 2, 1) := by decide +kernel
theorem d_Fo_changesEnd_91 : decode prog_3_method_5_code 91 = .ok (.invokevirtual 58, 3) := by decide +kernel
theorem d_Fo_changesEnd_94 : decode prog_3_method_5_code 94 = .ok (.istore 5, 2) := by decide +kernel
theorem d_Fo_changesEnd_96 : decode prog_3_method_5_code 96 = .ok (.iinc 6 1, 3) := by decide +kernel
theorem d_Fo_changesEnd_99 : decode prog_3_method_5_code 99 = .ok (.goto (-58), 3) := by decide +kernel
theorem d_Fo_changesEnd_102 : decode prog_3_method_5_code 102 = .ok (.aload_n 0, 1) := by decide +kernel
theorem d_Fo_changesEnd_103 : decode prog_3_method_5_code 103 = .ok (.getfield 9, 3) := by decide +kernel
theorem d_Fo_changesEnd_106 : decode prog_3_method_5_code 106 = .ok (.getfield 45, 3) := by decide +kernel
theorem d_Fo_changesEnd_109 : decode prog_3_method_5_code 109 = .ok (.aload_n 0, 1) := by decide +kernel
theorem d_Fo_changesEnd_110 : decode prog_3_method_5_code 110 = .ok (.getfield 9, 3) := by decide +kernel
theorem d_Fo_changesEnd_113 : decode prog_3_method_5_code 113 = .ok (.getfield 21, 3) := by decide +kernel
theorem d_Fo_changesEnd_116 : decode prog_3_method_5_code 116 = .ok (.iconst 1, 1) := by decide +kernel
theorem d_Fo_changesEnd_117 : decode prog_3_method_5_code 117 = .ok (.iadd, 1) := by decide +kernel
theorem d_Fo_changesEnd_118 : decode prog_3_method_5_code 118 = .ok (.iload_n 3, 1) := by decide +kernel
theorem d_Fo_changesEnd_119 : decode prog_3_method_5_code 119 = .ok (.iload 4, 2) := by decide +kernel
theorem d_Fo_changesEnd_121 : decode prog_3_method_5_code 121 = .ok (.iadd, 1) := by decide +kernel
theorem d_Fo_changesEnd_122 : decode prog_3_method_5_code 122 = .ok (.iastore, 1) := by decide +kernel
theorem d_Fo_changesEnd_123 : decode prog_3_method_5_code 123 = .ok (.iload 5, 2) := by decide +kernel
theorem d_Fo_changesEnd_125 : decode prog_3_method_5_code 125 = .ok (.ireturn, 1) := by decide +kernel
theorem upd_eq (f : Nat → Int32) (k : Nat) (v : Int32) : upd f k v k = v := if_pos rfl
theorem upd_ne (f : Nat → Int32) {k j : Nat} {v : Int32} (h : ¬ j = k) : upd f k v j = f j := if_neg h
theorem nI_subN {a b : Nat} (h : b ≤ a) : nI a - nI b = nI (a - b) := by
  have : nI a = nI (a - b) + nI b := by rw [nI_add, Nat.sub_add_cancel h]
  rw [this, Int32.add_sub_cancel]
/-- hashes rise -/
def rising (f : Nat → Int32) (a d : Nat) : Prop := ∀ i, i + 1 < d → sq f (a + i * 32) 32 < sq f (a + (i + 1) * 32) 32
theorem chR.le {f : Nat → Int32} {en a b : Nat} (h : chR f en a b) : a + 7 ≤ b ∧ b ≤ en := by
  rcases h with ⟨-, h⟩ | ⟨-, h⟩ | ⟨-, h⟩ | ⟨-, h1, h2⟩ | ⟨-, h1, h2⟩
  · obtain ⟨-, n, -, e1, h1, h2, -, h3⟩ := h
    have : 1 ≤ n := by
      rcases Nat.eq_zero_or_pos n with rfl | z
      · rw [e1] at h1; exact absurd h1 (by decide)
      · exact z
    omega
  · have := h.2.2.le
    omega
  · obtain ⟨q1, q2, h1, h2, h3, h4, h5⟩ := h
    have g1 := h1.le
    have g2 := h2.le
    have g3 := lnsR.le h3 h5
    obtain ⟨n, hn⟩ : ∃ n, tw f q2 = n + 1 := ⟨tw f q2 - 1, by omega⟩
    rw [hn] at h5
    obtain ⟨q3, h6, h7⟩ := h5
    have g4 := h6.le
    have g5 := lnsR.le (by omega) h7
    have : q3 = q2 + 2 + 2 + tw f (q2 + 2) := h6.2.2.2.2.2
    omega
  · omega
  · omega
noncomputable def chN (f : Nat → Int32) (en a : Nat) : Nat := @dite _ (∃ q, chR f en a q) (Classical.propDecidable _) (fun h => h.choose) (fun _ => 0)
theorem chN_eq {f : Nat → Int32} {en a q : Nat} (h : chR f en a q) : chN f en a = q := by
  unfold chN
  rw [dif_pos ⟨q, h⟩]
  exact chR.uniq (Exists.choose_spec (⟨q, h⟩ : ∃ q, chR f en a q)) h
/-- where the i-th change begins -/
noncomputable def sS (f : Nat → Int32) (en a : Nat) : Nat → Nat
  | 0 => a
  | i + 1 => chN f en (sS f en a i)
/-- T changes, one behind the other -/
def chain (f : Nat → Int32) (en a T : Nat) : Prop := ∀ j, j < T → sS f en a j < en ∧ chR f en (sS f en a j) (sS f en a (j + 1))
theorem chain.low {f : Nat → Int32} {en a : Nat} : ∀ {i : Nat}, chain f en a i → a + 7 * i ≤ sS f en a i
  | 0, _ => Nat.le_refl _
  | i + 1, h => by
    have h1 := chain.low (i := i) (fun j hj => h j (by omega))
    have h2 := (h i (by omega)).2.le
    omega
/-- the form of a patch's bytes -/
def kept (f : Nat → Int32) (s0 en : Nat) : Prop := s0 + 4 ≤ en ∧ s0 + 2 + tw f s0 * 32 + 2 ≤ en ∧ rising f (s0 + 2) (tw f s0) ∧ ¬ tw f (s0 + 2 + tw f s0 * 32) = 0 ∧ chain f en (s0 + 2 + tw f s0 * 32 + 2) (tw f (s0 + 2 + tw f s0 * 32)) ∧ sS f en (s0 + 2 + tw f s0 * 32 + 2) (tw f (s0 + 2 + tw f s0 * 32)) = en
set_option maxHeartbeats 4000000 in
set_option maxRecDepth 100000 in
/-- whether hashes rise -/
theorem m_Fo_isRising (l : Launch) (dC : Nat → ClassId) (dI : Nat → Nat → Nat) (cI cB cL cZ cR : ClassId) (h sk b_y : Nat) (sk_from sk_firstDependency sk_firstChange sk_dependencies sk_hashes sk_byHash sk_leansOn sk_leantBy sk_changes sk_lines sk_patches : Value) (f : Nat → Int32) (a d : Nat) (sz : Nat) (hd : a + d * 32 ≤ 290000) : Met l y_Fo_isRising ws_Fo_isRising ({ frames := 1, cells := 0, slots := 0, locals := 60 }) (xw_Pc dC dI [(cI, .int), (cB, .byte), (cL, .long), (cZ, .boolean), (cR, .object "PatchStore$Repository")] [.ref h, .int (nI a), .int (nI d)] [(h, .inr (2, [.ref sk])), (sk, .inr (9, [.ref b_y, sk_from, sk_firstDependency, sk_firstChange, sk_dependencies, sk_hashes, sk_byHash, sk_leansOn, sk_leantBy, sk_changes, sk_lines, sk_patches])), (b_y, .inl (cB, 290000, .inl f))] sz) (va_Qi (fun (r : Int32) (_ : Unit) => (r = 1 ∧ rising f a d) ∨ (r = 0 ∧ ¬ rising f a d)) (fun _ t => xw_B dC dI [(cI, .int), (cB, .byte), (cL, .long), (cZ, .boolean), (cR, .object "PatchStore$Repository")] (va_A [(h, .inr (2, [.ref sk])), (sk, .inr (9, [.ref b_y, sk_from, sk_firstDependency, sk_firstChange, sk_dependencies, sk_hashes, sk_byHash, sk_leansOn, sk_leantBy, sk_changes, sk_lines, sk_patches])), (b_y, .inl (cB, 290000, .inl f))] sz) [(h, .inr (2, [.ref sk])), (sk, .inr (9, [.ref b_y, sk_from, sk_firstDependency, sk_firstChange, sk_dependencies, sk_hashes, sk_byHash, sk_leansOn, sk_leantBy, sk_changes, sk_lines, sk_patches])), (b_y, .inl (cB, 290000, .inl f))] t) (va_A [(h, .inr (2, [.ref sk])), (sk, .inr (9, [.ref b_y, sk_from, sk_firstDependency, sk_firstChange, sk_dependencies, sk_hashes, sk_byHash, sk_leansOn, sk_leantBy, sk_changes, sk_lines, sk_patches])), (b_y, .inl (cB, 290000, .inl f))] sz)) 0 0 (va_A [(h, .inr (2, [.ref sk])), (sk, .inr (9, [.ref b_y, sk_from, sk_firstDependency, sk_firstChange, sk_dependencies, sk_hashes, sk_byHash, sk_leansOn, sk_leantBy, sk_changes, sk_lines, sk_patches])), (b_y, .inl (cB, 290000, .inl f))] sz) := by
  refine Met.ofW (cc := prog_3_method_4_code) (maxL := 5) (ret := (Option.some Jvm.ClassFile.FieldType.boolean)) (by decide) rfl ?_
  intro p e s m args below meth c s₁ B hml hv
  obtain ⟨rfl, hsz, hP, hK, hD0⟩ := hv
  have hx := B.exec
  have hb := B.bytes
  have hr := B.returns
  have hts0 := atoms_spec (ws := ws_Fo_isRising) B.pre
  have hts : ∀ w ∈ xg_1, w.before _ s = true := fun w h => hts0 w (List.mem_cons_of_mem _ h)
  have hown : s.vm.findClass "PatchStore$Form" = some m.cls := findClass_of_methodNamed B.named
  have hlocks := B.notSynchronized
  subst hsz
  have hD := hD0.self (sz := s.heap.size)
  generalize hAe : va_A [(h, .inr (2, [.ref sk])), (sk, .inr (9, [.ref b_y, sk_from, sk_firstDependency, sk_firstChange, sk_dependencies, sk_hashes, sk_byHash, sk_leansOn, sk_leantBy, sk_changes, sk_lines, sk_patches])), (b_y, .inl (cB, 290000, .inl f))] s.heap.size = A at hD ⊢
  have hA : ∀ q : Nat, s.heap.size ≤ q → A q := fun q h => by rw [← hAe]; exact Or.inr h
  have hS : va_S A s.heap s.heap [] := va_S.rf
  have hl := lv_entry ([.ref h, .int (nI a), .int (nI d)]) (n := 5) (Nat.le_of_ble_eq_true rfl)
  rw [lg_entry_eq]
  generalize (lg_sl ([.ref h, .int (nI a), .int (nI d)]) ++ List.replicate (5 - (lg_sl ([.ref h, .int (nI a), .int (nI d)])).length) Slot.unset).toArray = ls at hl ⊢
  have hl : lv_has ls 5 [(0, .ref h), (1, .int (nI a)), (2, .int (nI d))] := hl
  generalize hQe : MQ _ _ _ _ _ _ _ = Q
  refine lv_iconst (v := 1) hx hb d_Fo_isRising_0 (by decide) ?_
  refine lv_istore_n (lv' := [(3, .int 1), (0, .ref h), (1, .int (nI a)), (2, .int (nI d))]) hx hb d_Fo_isRising_1 rfl hl (by decide) rfl (fun ls hl => ?_)
  have loop_2 : ∀ (n9 : Nat) (k : Nat) (H : Heap) (locs : List Loc) (ls : Array Slot), d + 1 - k < n9 → (1 ≤ k) → (k ≤ d + 1) → (∀ i, i + 1 < k → sq f (a + i * 32) 32 < sq f (a + (i + 1) * 32) 32) → va_P (dC, dI) classes [(h, .inr (2, [.ref sk])), (sk, .inr (9, [.ref b_y, sk_from, sk_firstDependency, sk_firstChange, sk_dependencies, sk_hashes, sk_byHash, sk_leansOn, sk_leantBy, sk_changes, sk_lines, sk_patches])), (b_y, .inl (cB, 290000, .inl f))] H → va_D A [(h, .inr (2, [.ref sk])), (sk, .inr (9, [.ref b_y, sk_from, sk_firstDependency, sk_firstChange, sk_dependencies, sk_hashes, sk_byHash, sk_leansOn, sk_leantBy, sk_changes, sk_lines, sk_patches])), (b_y, .inl (cB, 290000, .inl f))] → va_S A s.heap H locs → lv_has ls 5 [(0, .ref h), (1, .int (nI a)), (2, .int (nI d)), (3, .int (nI k))] → W p l e (headSpec ws_Fo_isRising ({ frames := 1, cells := 0, slots := 0, locals := 60 })).room s m ([.ref h, .int (nI a), .int (nI d)] : List Value).toArray below meth c H locs 0 0 Q (F0 m 2 ls []) := by
    intro n9
    induction n9 with
    | zero => intro k H locs ls hm; exact absurd hm (Nat.not_lt_zero _)
    | succ n9 ih_2 =>
      intro k H locs ls hm hk1 hk2 hq hP hD hS hl
      refine lv_iload_n hx hb d_Fo_isRising_2 rfl (lv_at hl 3 rfl) ?_
      refine lv_iload_n hx hb d_Fo_isRising_3 rfl (lv_at hl 2 rfl) ?_
      refine lv_icmp_ge (tgt := 50) hx hb d_Fo_isRising_4 (by decide) (fun c_4 => ?_) (fun c_4 => ?_)
      · have n_4 : d ≤ k := (nI_leI (a := d) (b := k) (by omega) (by omega)).mp c_4
        refine lv_iconst (v := 1) hx hb d_Fo_isRising_50 (by decide) ?_
        rw [← hQe]
        exact W.zret (v := 1) hx hb hr nz_b1 (fun t ht hW => ⟨⟨_, (), rfl, Or.inl ⟨rfl, fun i z => hq i (by omega)⟩, by rw [ht]; exact hP, va_K.moved hW.alike hK, hD⟩, hS.F ht⟩) hS.2.2 d_Fo_isRising_51
      · have n_4 : k < d := Nat.lt_of_not_le (fun z => c_4 ((nI_leI (a := d) (b := k) (by omega) (by omega)).mpr z))
        refine lv_iload_n hx hb d_Fo_isRising_7 rfl (lv_at hl 1 rfl) ?_
        refine lv_iload_n hx hb d_Fo_isRising_8 rfl (lv_at hl 3 rfl) ?_
        refine lv_bipush (v := 32) hx hb d_Fo_isRising_9 (by decide) ?_
        refine lv_imul hx hb d_Fo_isRising_11 ?_
        refine lv_topi (fun x_1 ex_1 => ?_)
        obtain rfl : x_1 = nI (k * 32) := by rw [ex_1]; first | done | (exact nI_mul _ _)
        refine lv_iadd hx hb d_Fo_isRising_12 ?_
        refine lv_topi (fun x_2 ex_2 => ?_)
        obtain rfl : x_2 = nI (a + (k * 32)) := by rw [ex_2]; first | done | (exact nI_add _ _)
        refine lv_istore (lv' := [(4, .int (nI (a + (k * 32)))), (0, .ref h), (1, .int (nI a)), (2, .int (nI d)), (3, .int (nI k))]) hx hb d_Fo_isRising_13 hl (by decide) rfl (fun ls hl => ?_)
        refine lv_aload_n hx hb d_Fo_isRising_15 rfl (lv_at hl 1 rfl) ?_
        refine va_get (D := (dC, dI)) (ci := 2) (v := .ref sk) (C := R_Fo) (T := F_Fo) (N := 1) hx hb hts i_Fo hown hK hP 0 rfl rfl 0 (by decide) (hts _ gw_280) (fun _ h9 => h9) rfl d_Fo_isRising_16 ?_
        refine va_get (D := (dC, dI)) (ci := 9) (v := .ref b_y) (C := R_St) (T := F_St) (N := 12) hx hb hts i_St hown hK hP 1 rfl rfl 0 (by decide) (hts _ gw_186) (fun _ h9 => h9) rfl d_Fo_isRising_19 ?_
        refine lv_iload hx hb d_Fo_isRising_22 (lv_at hl 0 rfl) ?_
        refine lv_bipush (v := 32) hx hb d_Fo_isRising_24 (by decide) ?_
        refine lv_isub hx hb d_Fo_isRising_26 ?_
        refine lv_topi (fun x_3 ex_3 => ?_)
        obtain rfl : x_3 = nI (a + (k - 1) * 32) := by rw [ex_3]; first | done | (rw [show a + (k - 1) * 32 = (a + (k * 32)) - 32 by omega]; exact nI_subN (b := 32) (by omega))
        refine lv_aload_n hx hb d_Fo_isRising_27 rfl (lv_at hl 1 rfl) ?_
        refine va_get (D := (dC, dI)) (ci := 2) (v := .ref sk) (C := R_Fo) (T := F_Fo) (N := 1) hx hb hts i_Fo hown hK hP 0 rfl rfl 0 (by decide) (hts _ gw_280) (fun _ h9 => h9) rfl d_Fo_isRising_28 ?_
        refine va_get (D := (dC, dI)) (ci := 9) (v := .ref b_y) (C := R_St) (T := F_St) (N := 12) hx hb hts i_St hown hK hP 1 rfl rfl 0 (by decide) (hts _ gw_186) (fun _ h9 => h9) rfl d_Fo_isRising_31 ?_
        refine lv_iload hx hb d_Fo_isRising_34 (lv_at hl 0 rfl) ?_
        have hPc := hP.sub (ws' := [(b_y, .inl (cB, 290000, .inl f))]) [2] rfl
        have hDc := hD.sub (ws' := [(b_y, .inl (cB, 290000, .inl f))]) [2] (by decide) rfl
        have hFc := va_free (wc := [(b_y, .inl (cB, 290000, .inl f))]) hD hS hA [2] rfl
        refine va_calli (va_runS (As := [.ref b_y, .int (nI (a + (k - 1) * 32)), .ref b_y, .int (nI (a + (k * 32)))]) (rest := []) ⟨hx, hb, hml, hown, hts⟩ (m_St_cmps l dC dI cI cB cL cZ cR b_y 290000 f (a + (k - 1) * 32) (a + (k * 32)) H.size (by decide) (by omega) (by omega)) ⟨callB_of 4 hts (xg_in gw_780) rfl rfl rfl (hts _ gw_3) (hts _ gw_778) (by decide +kernel) ⟨Nat.le_of_ble_eq_true rfl, Nat.le_of_ble_eq_true rfl⟩, hts _ gw_779⟩ ⟨xw_blind, fun U hU hW => ⟨rfl, by rw [hU], by rw [hU]; exact hPc, va_K.moved hW.alike hK, hDc.weaken (fun _ _ _ _ => trivial)⟩⟩ rfl rfl hl.1 rfl (lv_room (Nat.le_of_ble_eq_true rfl)) d_Fo_isRising_36 ⟨Nat.le_of_ble_eq_true rfl, Nat.le_of_ble_eq_true rfl⟩) hS (fun q _ h => hFc q h) hFc (fun r9 u t H1 locs ht hvm hw hB hz1 hk1 hS => ?_)
        obtain ⟨hP1, hK1, hD1⟩ := hB
        rw [ht] at hP1
        obtain ⟨hP, hD⟩ := va_join (wr := [(h, .inr (2, [.ref sk])), (sk, .inr (9, [.ref b_y, sk_from, sk_firstDependency, sk_firstChange, sk_dependencies, sk_hashes, sk_byHash, sk_leansOn, sk_leantBy, sk_changes, sk_lines, sk_patches]))]) (w1 := [(b_y, .inl (cB, 290000, .inl f))]) hP hD [2] [0, 1] rfl rfl (by decide) (by decide) hk1 hFc hP1 hD1
        generalize H1 = H at hP hS ⊢
        have hP : va_P (dC, dI) classes [(h, .inr (2, [.ref sk])), (sk, .inr (9, [.ref b_y, sk_from, sk_firstDependency, sk_firstChange, sk_dependencies, sk_hashes, sk_byHash, sk_leansOn, sk_leantBy, sk_changes, sk_lines, sk_patches])), (b_y, .inl (cB, 290000, .inl f))] H := hP
        have hD : va_D A [(h, .inr (2, [.ref sk])), (sk, .inr (9, [.ref b_y, sk_from, sk_firstDependency, sk_firstChange, sk_dependencies, sk_hashes, sk_byHash, sk_leansOn, sk_leantBy, sk_changes, sk_lines, sk_patches])), (b_y, .inl (cB, 290000, .inl f))] := hD
        subst hw
        refine lv_if_lt (tgt := 44) hx hb d_Fo_isRising_39 (by decide) (fun c_39 => ?_) (fun c_39 => ?_)
        · refine lv_iinc (v := nI (k + 1)) (lv' := [(3, .int (nI (k + 1))), (4, .int (nI (a + (k * 32)))), (0, .ref h), (1, .int (nI a)), (2, .int (nI d))]) hx hb d_Fo_isRising_44 hl (k := 4) rfl (by exact nI_add _ _) (by decide) rfl (fun ls hl => ?_)
          refine lv_goto (tgt := 2) hx hb d_Fo_isRising_47 (by decide) ?_
          exact ih_2 (k + 1) _ _ _ (by omega) (by omega) (by omega) (fun i z => if h9 : i + 1 = k then (by have := (bo_lt _ _ _ _ _).mp c_39; rw [show k - 1 = i by omega, ← h9] at this; exact this) else hq i (by omega)) hP hD hS (lv_sub hl [2, 3, 4, 0] rfl)
        · refine lv_iconst (v := 0) hx hb d_Fo_isRising_42 (by decide) ?_
          rw [← hQe]
          exact W.zret (v := 0) hx hb hr nz_b0 (fun t ht hW => ⟨⟨_, (), rfl, Or.inr ⟨rfl, fun z => c_39 ((bo_lt _ _ _ _ _).mpr (by have := z (k - 1) (by omega); rw [show k - 1 + 1 = k by omega] at this; exact this))⟩, by rw [ht]; exact hP, va_K.moved hW.alike hK, hD⟩, hS.F ht⟩) hS.2.2 d_Fo_isRising_43
  exact loop_2 _ 1 _ _ _ (Nat.lt_succ_self _) (Nat.le_refl _) (by omega) (fun i z => absurd z (by omega)) hP hD hS (lv_sub hl [1, 2, 3, 0] rfl)
set_option maxHeartbeats 4000000 in
set_option maxRecDepth 100000 in
/-- behind the changes of a patch -/
theorem m_Fo_changesEnd (l : Launch) (dC : Nat → ClassId) (dI : Nat → Nat → Nat) (cI cB cL cZ cR : ClassId) (h sk b_y fcA ch cat : Nat) (sk_from sk_firstDependency sk_dependencies sk_hashes sk_byHash sk_leansOn sk_leantBy sk_lines ch_patch ch_file ch_firstLine ch_adds ch_files : Value) (f ca fcf : Nat → Int32) (P F en a : Nat) (sz : Nat) (he : en ≤ 290000) (ha : a + 2 ≤ en) (hP5 : P ≤ 500) (hF : fcf P = nI F) (hF2 : F < 38000) (hroom : ∀ i, i < tw f a → a + 2 + 7 * i < en → F + i < 38000) : Met l y_Fo_changesEnd ws_Fo_changesEnd ({ frames := 4, cells := 0, slots := 0, locals := 240 }) (xw_Pc dC dI [(cI, .int), (cB, .byte), (cL, .long), (cZ, .boolean), (cR, .object "PatchStore$Repository")] [.ref h, .int (nI a), .int (nI en)] [(h, .inr (2, [.ref sk])), (sk, .inr (9, [.ref b_y, sk_from, sk_firstDependency, .ref fcA, sk_dependencies, sk_hashes, sk_byHash, sk_leansOn, sk_leantBy, .ref ch, sk_lines, .int (nI P)])), (b_y, .inl (cB, 290000, .inl f)), (fcA, .inl (cI, 502, .inl fcf)), (ch, .inr (1, [.ref cat, ch_patch, ch_file, ch_firstLine, ch_adds, ch_files])), (cat, .inl (cI, 38000, .inl ca))] sz) (va_Qi (fun (r : Int32) (u : (Nat → Int32) × (Nat → Int32)) => ((¬ tw f a = 0 ∧ chain f en (a + 2) (tw f a) ∧ r = nI (sS f en (a + 2) (tw f a)) ∧ (∀ j, j < tw f a → u.1 (F + j) = nI (sS f en (a + 2) j)) ∧ u.2 = upd fcf (P + 1) (nI (F + tw f a))) ∨ (r = -1 ∧ ¬ (¬ tw f a = 0 ∧ chain f en (a + 2) (tw f a)))) ∧ (∀ k, k < F → u.1 k = ca k) ∧ (∀ k, k ≤ P → u.2 k = fcf k)) (fun u t => xw_B dC dI [(cI, .int), (cB, .byte), (cL, .long), (cZ, .boolean), (cR, .object "PatchStore$Repository")] (va_A [(h, .inr (2, [.ref sk])), (sk, .inr (9, [.ref b_y, sk_from, sk_firstDependency, .ref fcA, sk_dependencies, sk_hashes, sk_byHash, sk_leansOn, sk_leantBy, .ref ch, sk_lines, .int (nI P)])), (b_y, .inl (cB, 290000, .inl f)), (fcA, .inl (cI, 502, .inl fcf)), (ch, .inr (1, [.ref cat, ch_patch, ch_file, ch_firstLine, ch_adds, ch_files])), (cat, .inl (cI, 38000, .inl ca))] sz) [(h, .inr (2, [.ref sk])), (sk, .inr (9, [.ref b_y, sk_from, sk_firstDependency, .ref fcA, sk_dependencies, sk_hashes, sk_byHash, sk_leansOn, sk_leantBy, .ref ch, sk_lines, .int (nI P)])), (b_y, .inl (cB, 290000, .inl f)), (fcA, .inl (cI, 502, .inl u.2)), (ch, .inr (1, [.ref cat, ch_patch, ch_file, ch_firstLine, ch_adds, ch_files])), (cat, .inl (cI, 38000, .inl u.1))] t) (va_A [(h, .inr (2, [.ref sk])), (sk, .inr (9, [.ref b_y, sk_from, sk_firstDependency, .ref fcA, sk_dependencies, sk_hashes, sk_byHash, sk_leansOn, sk_leantBy, .ref ch, sk_lines, .int (nI P)])), (b_y, .inl (cB, 290000, .inl f)), (fcA, .inl (cI, 502, .inl fcf)), (ch, .inr (1, [.ref cat, ch_patch, ch_file, ch_firstLine, ch_adds, ch_files])), (cat, .inl (cI, 38000, .inl ca))] sz)) 0 0 (va_A [(h, .inr (2, [.ref sk])), (sk, .inr (9, [.ref b_y, sk_from, sk_firstDependency, .ref fcA, sk_dependencies, sk_hashes, sk_byHash, sk_leansOn, sk_leantBy, .ref ch, sk_lines, .int (nI P)])), (b_y, .inl (cB, 290000, .inl f)), (fcA, .inl (cI, 502, .inl fcf)), (ch, .inr (1, [.ref cat, ch_patch, ch_file, ch_firstLine, ch_adds, ch_files])), (cat, .inl (cI, 38000, .inl ca))] sz) := by
  refine Met.ofW (cc := prog_3_method_5_code) (maxL := 7) (ret := (Option.some Jvm.ClassFile.FieldType.int)) (by decide) rfl ?_
  intro p e s m args below meth c s₁ B hml hv
  obtain ⟨rfl, hsz, hP, hK, hD0⟩ := hv
  have hx := B.exec
  have hb := B.bytes
  have hr := B.returns
  have hts0 := atoms_spec (ws := ws_Fo_changesEnd) B.pre
  have hts : ∀ w ∈ xg_1, w.before _ s = true := fun w h => hts0 w (List.mem_cons_of_mem _ h)
  have hown : s.vm.findClass "PatchStore$Form" = some m.cls := findClass_of_methodNamed B.named
  have hlocks := B.notSynchronized
  subst hsz
  have hD := hD0.self (sz := s.heap.size)
  generalize hAe : va_A [(h, .inr (2, [.ref sk])), (sk, .inr (9, [.ref b_y, sk_from, sk_firstDependency, .ref fcA, sk_dependencies, sk_hashes, sk_byHash, sk_leansOn, sk_leantBy, .ref ch, sk_lines, .int (nI P)])), (b_y, .inl (cB, 290000, .inl f)), (fcA, .inl (cI, 502, .inl fcf)), (ch, .inr (1, [.ref cat, ch_patch, ch_file, ch_firstLine, ch_adds, ch_files])), (cat, .inl (cI, 38000, .inl ca))] s.heap.size = A at hD ⊢
  have hA : ∀ q : Nat, s.heap.size ≤ q → A q := fun q h => by rw [← hAe]; exact Or.inr h
  have hS : va_S A s.heap s.heap [] := va_S.rf
  have hl := lv_entry ([.ref h, .int (nI a), .int (nI en)]) (n := 7) (Nat.le_of_ble_eq_true rfl)
  rw [lg_entry_eq]
  generalize (lg_sl ([.ref h, .int (nI a), .int (nI en)]) ++ List.replicate (7 - (lg_sl ([.ref h, .int (nI a), .int (nI en)])).length) Slot.unset).toArray = ls at hl ⊢
  have hl : lv_has ls 7 [(0, .ref h), (1, .int (nI a)), (2, .int (nI en))] := hl
  generalize hQe : MQ _ _ _ _ _ _ _ = Q
  refine lv_aload_n hx hb d_Fo_changesEnd_0 rfl (lv_at hl 0 rfl) ?_
  refine va_get (D := (dC, dI)) (ci := 2) (v := .ref sk) (C := R_Fo) (T := F_Fo) (N := 1) hx hb hts i_Fo hown hK hP 0 rfl rfl 0 (by decide) (hts _ gw_280) (fun _ h9 => h9) rfl d_Fo_changesEnd_1 ?_
  refine va_get (D := (dC, dI)) (ci := 9) (v := .ref fcA) (C := R_St) (T := F_St) (N := 12) hx hb hts i_St hown hK hP 1 rfl rfl 3 (by decide) (hts _ gw_198) (fun _ h9 => h9) rfl d_Fo_changesEnd_4 ?_
  refine lv_aload_n hx hb d_Fo_changesEnd_7 rfl (lv_at hl 0 rfl) ?_
  refine va_get (D := (dC, dI)) (ci := 2) (v := .ref sk) (C := R_Fo) (T := F_Fo) (N := 1) hx hb hts i_Fo hown hK hP 0 rfl rfl 0 (by decide) (hts _ gw_280) (fun _ h9 => h9) rfl d_Fo_changesEnd_8 ?_
  refine va_get (D := (dC, dI)) (ci := 9) (v := .int (nI P)) (C := R_St) (T := F_St) (N := 12) hx hb hts i_St hown hK hP 1 rfl rfl 11 (by decide) (hts _ gw_239) (fun _ h9 => h9) rfl d_Fo_changesEnd_11 ?_
  refine va_iald hx hb hK hP 3 0 rfl rfl (vp_in_nI (by omega) (by omega)) d_Fo_changesEnd_14 ?_
  rw [show (nI P).toNatClampNeg = P from nI_clamp (by omega)]
  refine lv_topi (fun x_1 ex_1 => ?_)
  obtain rfl : x_1 = nI F := by rw [ex_1]; first | done | (exact hF)
  refine lv_istore_n (lv' := [(3, .int (nI F)), (0, .ref h), (1, .int (nI a)), (2, .int (nI en))]) hx hb d_Fo_changesEnd_15 rfl hl (by decide) rfl (fun ls hl => ?_)
  refine lv_aload_n hx hb d_Fo_changesEnd_16 rfl (lv_at hl 1 rfl) ?_
  refine va_get (D := (dC, dI)) (ci := 2) (v := .ref sk) (C := R_Fo) (T := F_Fo) (N := 1) hx hb hts i_Fo hown hK hP 0 rfl rfl 0 (by decide) (hts _ gw_280) (fun _ h9 => h9) rfl d_Fo_changesEnd_17 ?_
  refine lv_iload_n hx hb d_Fo_changesEnd_20 rfl (lv_at hl 2 rfl) ?_
  have hPc := hP.sub (ws' := [(sk, .inr (9, [.ref b_y, sk_from, sk_firstDependency, .ref fcA, sk_dependencies, sk_hashes, sk_byHash, sk_leansOn, sk_leantBy, .ref ch, sk_lines, .int (nI P)])), (b_y, .inl (cB, 290000, .inl f))]) [1, 2] rfl
  have hDc := hD.sub (ws' := [(sk, .inr (9, [.ref b_y, sk_from, sk_firstDependency, .ref fcA, sk_dependencies, sk_hashes, sk_byHash, sk_leansOn, sk_leantBy, .ref ch, sk_lines, .int (nI P)])), (b_y, .inl (cB, 290000, .inl f))]) [1, 2] (by decide) rfl
  have hFc := va_free (wc := [(sk, .inr (9, [.ref b_y, sk_from, sk_firstDependency, .ref fcA, sk_dependencies, sk_hashes, sk_byHash, sk_leansOn, sk_leantBy, .ref ch, sk_lines, .int (nI P)])), (b_y, .inl (cB, 290000, .inl f))]) hD hS hA [1, 2] rfl
  refine va_calli (va_runV (As := [.int (nI a)]) (rest := []) ⟨hx, hb, hml, hown, hts⟩ (m_St_two l dC dI cI cB cL cZ cR sk b_y (sk_from) (sk_firstDependency) (.ref fcA) (sk_dependencies) (sk_hashes) (sk_byHash) (sk_leansOn) (sk_leantBy) (.ref ch) (sk_lines) (.int (nI P)) f a s.heap.size (by omega)) (cwV 1 hts (xg_V gw_770 gw_771 gw_772 gw_3 gw_773) rfl rfl rfl (by decide +kernel) ⟨Nat.le_of_ble_eq_true rfl, Nat.le_of_ble_eq_true rfl⟩) ⟨xw_blind, va_recv hK hPc (ci := 9) (q0 := 0) rfl rfl, fun U hU hW => ⟨rfl, by rw [hU], by rw [hU]; exact hPc, va_K.moved hW.alike hK, hDc.weaken (fun _ _ _ _ => trivial)⟩⟩ rfl rfl hl.1 rfl (lv_room (Nat.le_of_ble_eq_true rfl)) d_Fo_changesEnd_21 ⟨Nat.le_of_ble_eq_true rfl, Nat.le_of_ble_eq_true rfl⟩) hS (fun q _ h => hFc q h) hFc (fun r9 u t H1 locs ht hvm hw hB hz1 hk1 hS => ?_)
  obtain ⟨hP1, hK1, hD1⟩ := hB
  rw [ht] at hP1
  obtain ⟨hP, hD⟩ := va_join (wr := [(h, .inr (2, [.ref sk])), (fcA, .inl (cI, 502, .inl fcf)), (ch, .inr (1, [.ref cat, ch_patch, ch_file, ch_firstLine, ch_adds, ch_files])), (cat, .inl (cI, 38000, .inl ca))]) (w1 := [(sk, .inr (9, [.ref b_y, sk_from, sk_firstDependency, .ref fcA, sk_dependencies, sk_hashes, sk_byHash, sk_leansOn, sk_leantBy, .ref ch, sk_lines, .int (nI P)])), (b_y, .inl (cB, 290000, .inl f))]) hP hD [1, 2] [0, 3, 4, 5] rfl rfl (by decide) (by decide) hk1 hFc hP1 hD1
  generalize H1 = H at hP hS ⊢
  have hP : va_P (dC, dI) classes [(h, .inr (2, [.ref sk])), (fcA, .inl (cI, 502, .inl fcf)), (ch, .inr (1, [.ref cat, ch_patch, ch_file, ch_firstLine, ch_adds, ch_files])), (cat, .inl (cI, 38000, .inl ca)), (sk, .inr (9, [.ref b_y, sk_from, sk_firstDependency, .ref fcA, sk_dependencies, sk_hashes, sk_byHash, sk_leansOn, sk_leantBy, .ref ch, sk_lines, .int (nI P)])), (b_y, .inl (cB, 290000, .inl f))] H := hP
  have hD : va_D A [(h, .inr (2, [.ref sk])), (fcA, .inl (cI, 502, .inl fcf)), (ch, .inr (1, [.ref cat, ch_patch, ch_file, ch_firstLine, ch_adds, ch_files])), (cat, .inl (cI, 38000, .inl ca)), (sk, .inr (9, [.ref b_y, sk_from, sk_firstDependency, .ref fcA, sk_dependencies, sk_hashes, sk_byHash, sk_leansOn, sk_leantBy, .ref ch, sk_lines, .int (nI P)])), (b_y, .inl (cB, 290000, .inl f))] := hD
  subst hw
  have htw9 := tw_lt f a
  refine lv_istore (lv' := [(4, .int (nI (tw f a))), (3, .int (nI F)), (0, .ref h), (1, .int (nI a)), (2, .int (nI en))]) hx hb d_Fo_changesEnd_24 hl (by decide) rfl (fun ls hl => ?_)
  refine lv_iload hx hb d_Fo_changesEnd_26 (lv_at hl 0 rfl) ?_
  refine lv_if_ne (tgt := 33) hx hb d_Fo_changesEnd_28 (by decide) (fun c_28 => ?_) (fun c_28 => ?_)
  · have n_28 : ¬ (tw f a) = 0 := fun z => c_28 ((nI_eq (a := (tw f a)) (b := 0) (by omega) (by omega)).mpr z)
    refine lv_iload_n hx hb d_Fo_changesEnd_33 rfl (lv_at hl 3 rfl) ?_
    refine lv_iconst (v := 2) hx hb d_Fo_changesEnd_34 (by decide) ?_
    refine lv_iadd hx hb d_Fo_changesEnd_35 ?_
    refine lv_topi (fun x_2 ex_2 => ?_)
    obtain rfl : x_2 = nI (a + 2) := by rw [ex_2]; first | done | (exact nI_add _ _)
    refine lv_istore (lv' := [(5, .int (nI (a + 2))), (4, .int (nI (tw f a))), (3, .int (nI F)), (0, .ref h), (1, .int (nI a)), (2, .int (nI en))]) hx hb d_Fo_changesEnd_36 hl (by decide) rfl (fun ls hl => ?_)
    refine lv_iconst (v := 0) hx hb d_Fo_changesEnd_38 (by decide) ?_
    refine lv_istore (lv' := [(6, .int 0), (5, .int (nI (a + 2))), (4, .int (nI (tw f a))), (3, .int (nI F)), (0, .ref h), (1, .int (nI a)), (2, .int (nI en))]) hx hb d_Fo_changesEnd_39 hl (by decide) rfl (fun ls hl => ?_)
    have loop_41 : ∀ (n9 : Nat) (i : Nat) (caf : Nat → Int32) (H : Heap) (locs : List Loc) (ls : Array Slot), tw f a - i < n9 → (i ≤ tw f a) → (chain f en (a + 2) i) → (∀ j, j < i → caf (F + j) = nI (sS f en (a + 2) j)) → (∀ k, k < F → caf k = ca k) → (sS f en (a + 2) i ≤ en) → va_P (dC, dI) classes [(h, .inr (2, [.ref sk])), (sk, .inr (9, [.ref b_y, sk_from, sk_firstDependency, .ref fcA, sk_dependencies, sk_hashes, sk_byHash, sk_leansOn, sk_leantBy, .ref ch, sk_lines, .int (nI P)])), (b_y, .inl (cB, 290000, .inl f)), (fcA, .inl (cI, 502, .inl fcf)), (ch, .inr (1, [.ref cat, ch_patch, ch_file, ch_firstLine, ch_adds, ch_files])), (cat, .inl (cI, 38000, .inl caf))] H → va_D A [(h, .inr (2, [.ref sk])), (sk, .inr (9, [.ref b_y, sk_from, sk_firstDependency, .ref fcA, sk_dependencies, sk_hashes, sk_byHash, sk_leansOn, sk_leantBy, .ref ch, sk_lines, .int (nI P)])), (b_y, .inl (cB, 290000, .inl f)), (fcA, .inl (cI, 502, .inl fcf)), (ch, .inr (1, [.ref cat, ch_patch, ch_file, ch_firstLine, ch_adds, ch_files])), (cat, .inl (cI, 38000, .inl caf))] → va_S A s.heap H locs → lv_has ls 7 [(0, .ref h), (2, .int (nI en)), (3, .int (nI F)), (4, .int (nI (tw f a))), (5, .int (nI (sS f en (a + 2) i))), (6, .int (nI i))] → W p l e (headSpec ws_Fo_changesEnd ({ frames := 4, cells := 0, slots := 0, locals := 240 })).room s m ([.ref h, .int (nI a), .int (nI en)] : List Value).toArray below meth c H locs 0 0 Q (F0 m 41 ls []) := by
      intro n9
      induction n9 with
      | zero => intro i caf H locs ls hm; exact absurd hm (Nat.not_lt_zero _)
      | succ n9 ih_41 =>
        intro i caf H locs ls hm hi hch hca hfr hse hP hD hS hl
        have htw := tw_lt f a
        refine lv_iload hx hb d_Fo_changesEnd_41 (lv_at hl 5 rfl) ?_
        refine lv_iload hx hb d_Fo_changesEnd_43 (lv_at hl 3 rfl) ?_
        refine lv_icmp_ge (tgt := 102) hx hb d_Fo_changesEnd_45 (by decide) (fun c_45 => ?_) (fun c_45 => ?_)
        · have n_45 : (tw f a) ≤ i := (nI_leI (a := (tw f a)) (b := i) (by omega) (by omega)).mp c_45
          refine lv_aload_n hx hb d_Fo_changesEnd_102 rfl (lv_at hl 0 rfl) ?_
          refine va_get (D := (dC, dI)) (ci := 2) (v := .ref sk) (C := R_Fo) (T := F_Fo) (N := 1) hx hb hts i_Fo hown hK hP 0 rfl rfl 0 (by decide) (hts _ gw_280) (fun _ h9 => h9) rfl d_Fo_changesEnd_103 ?_
          refine va_get (D := (dC, dI)) (ci := 9) (v := .ref fcA) (C := R_St) (T := F_St) (N := 12) hx hb hts i_St hown hK hP 1 rfl rfl 3 (by decide) (hts _ gw_198) (fun _ h9 => h9) rfl d_Fo_changesEnd_106 ?_
          refine lv_aload_n hx hb d_Fo_changesEnd_109 rfl (lv_at hl 0 rfl) ?_
          refine va_get (D := (dC, dI)) (ci := 2) (v := .ref sk) (C := R_Fo) (T := F_Fo) (N := 1) hx hb hts i_Fo hown hK hP 0 rfl rfl 0 (by decide) (hts _ gw_280) (fun _ h9 => h9) rfl d_Fo_changesEnd_110 ?_
          refine va_get (D := (dC, dI)) (ci := 9) (v := .int (nI P)) (C := R_St) (T := F_St) (N := 12) hx hb hts i_St hown hK hP 1 rfl rfl 11 (by decide) (hts _ gw_239) (fun _ h9 => h9) rfl d_Fo_changesEnd_113 ?_
          refine lv_iconst (v := 1) hx hb d_Fo_changesEnd_116 (by decide) ?_
          refine lv_iadd hx hb d_Fo_changesEnd_117 ?_
          refine lv_topi (fun x_3 ex_3 => ?_)
          obtain rfl : x_3 = nI (P + 1) := by rw [ex_3]; first | done | (exact nI_add _ _)
          refine lv_iload_n hx hb d_Fo_changesEnd_118 rfl (lv_at hl 2 rfl) ?_
          refine lv_iload hx hb d_Fo_changesEnd_119 (lv_at hl 3 rfl) ?_
          refine lv_iadd hx hb d_Fo_changesEnd_121 ?_
          refine lv_topi (fun x_4 ex_4 => ?_)
          obtain rfl : x_4 = nI (F + (tw f a)) := by rw [ex_4]; first | done | (exact nI_add _ _)
          refine va_iast hx hb hK hP hD hS 3 0 rfl rfl (vp_in_nI (by omega) (by omega)) d_Fo_changesEnd_122 (fun H locs hP hD hS => ?_)
          rw [show (nI (P + 1)).toNatClampNeg = (P + 1) from nI_clamp (by omega)] at hP hD
          have hP : va_P (dC, dI) classes [(h, .inr (2, [.ref sk])), (sk, .inr (9, [.ref b_y, sk_from, sk_firstDependency, .ref fcA, sk_dependencies, sk_hashes, sk_byHash, sk_leansOn, sk_leantBy, .ref ch, sk_lines, .int (nI P)])), (b_y, .inl (cB, 290000, .inl f)), (fcA, .inl (cI, 502, .inl (upd fcf (P + 1) (nI (F + (tw f a)))))), (ch, .inr (1, [.ref cat, ch_patch, ch_file, ch_firstLine, ch_adds, ch_files])), (cat, .inl (cI, 38000, .inl caf))] H := hP
          have hD : va_D A [(h, .inr (2, [.ref sk])), (sk, .inr (9, [.ref b_y, sk_from, sk_firstDependency, .ref fcA, sk_dependencies, sk_hashes, sk_byHash, sk_leansOn, sk_leantBy, .ref ch, sk_lines, .int (nI P)])), (b_y, .inl (cB, 290000, .inl f)), (fcA, .inl (cI, 502, .inl (upd fcf (P + 1) (nI (F + (tw f a)))))), (ch, .inr (1, [.ref cat, ch_patch, ch_file, ch_firstLine, ch_adds, ch_files])), (cat, .inl (cI, 38000, .inl caf))] := hD
          refine lv_iload hx hb d_Fo_changesEnd_123 (lv_at hl 4 rfl) ?_
          rw [← hQe]
          exact W.iret (v := nI (sS f en (a + 2) i)) hx hb hr (fun t ht hW => ⟨⟨_, (caf, upd fcf (P + 1) (nI (F + (tw f a)))), rfl, ⟨Or.inl ⟨n_28, (show i = tw f a by omega) ▸ hch, by rw [show i = tw f a by omega], fun j z => hca j (by omega), rfl⟩, hfr, fun k z => upd_ne _ (by omega)⟩, by rw [ht]; exact hP, va_K.moved hW.alike hK, hD⟩, hS.F ht⟩) hS.2.2 d_Fo_changesEnd_125
        · have n_45 : i < (tw f a) := Nat.lt_of_not_le (fun z => c_45 ((nI_leI (a := (tw f a)) (b := i) (by omega) (by omega)).mpr z))
          have hlow := hch.low
          refine lv_iload hx hb d_Fo_changesEnd_48 (lv_at hl 4 rfl) ?_
          refine lv_if_lt (tgt := 68) hx hb d_Fo_changesEnd_50 (by decide) (fun c_50 => absurd c_50 (nI_pos (by omega))) (fun _ => ?_)
          refine lv_iload hx hb d_Fo_changesEnd_53 (lv_at hl 4 rfl) ?_
          refine lv_iload_n hx hb d_Fo_changesEnd_55 rfl (lv_at hl 1 rfl) ?_
          refine lv_icmp_ge (tgt := 68) hx hb d_Fo_changesEnd_56 (by decide) (fun c_56 => ?_) (fun c_56 => ?_)
          · have n_56 : en ≤ (sS f en (a + 2) i) := (nI_leI (a := en) (b := (sS f en (a + 2) i)) (by omega) (by omega)).mp c_56
            have hbad : ¬ (¬ tw f a = 0 ∧ chain f en (a + 2) (tw f a)) := fun z => absurd (z.2 i n_45).1 (by omega)
            refine lv_iconst (v := (-1)) hx hb d_Fo_changesEnd_68 (by decide) ?_
            rw [← hQe]
            exact W.iret (v := (-1)) hx hb hr (fun t ht hW => ⟨⟨_, (caf, fcf), rfl, ⟨Or.inr ⟨rfl, hbad⟩, hfr, fun _ _ => rfl⟩, by rw [ht]; exact hP, va_K.moved hW.alike hK, hD⟩, hS.F ht⟩) hS.2.2 d_Fo_changesEnd_69
          · have n_56 : (sS f en (a + 2) i) < en := Nat.lt_of_not_le (fun z => c_56 ((nI_leI (a := en) (b := (sS f en (a + 2) i)) (by omega) (by omega)).mpr z))
            have hri := hroom i n_45 (by omega)
            refine lv_iload_n hx hb d_Fo_changesEnd_59 rfl (lv_at hl 2 rfl) ?_
            refine lv_iload hx hb d_Fo_changesEnd_60 (lv_at hl 5 rfl) ?_
            refine lv_iadd hx hb d_Fo_changesEnd_62 ?_
            refine lv_topi (fun x_5 ex_5 => ?_)
            obtain rfl : x_5 = nI (F + i) := by rw [ex_5]; first | done | (exact nI_add _ _)
            refine lv_ldc (own := "PatchStore$Form") hx hb hown (hts _ gw_785) d_Fo_changesEnd_63 ?_
            refine lv_icmp_lt (tgt := 70) hx hb d_Fo_changesEnd_65 (by decide) (fun _ => ?_) (fun c_65 => absurd ((nI_ltI (a := F + i) (b := 38000) (by omega) (by omega)).mpr (hroom i n_45 (by omega))) c_65)
            refine lv_aload_n hx hb d_Fo_changesEnd_70 rfl (lv_at hl 0 rfl) ?_
            refine va_get (D := (dC, dI)) (ci := 2) (v := .ref sk) (C := R_Fo) (T := F_Fo) (N := 1) hx hb hts i_Fo hown hK hP 0 rfl rfl 0 (by decide) (hts _ gw_280) (fun _ h9 => h9) rfl d_Fo_changesEnd_71 ?_
            refine va_get (D := (dC, dI)) (ci := 9) (v := .ref ch) (C := R_St) (T := F_St) (N := 12) hx hb hts i_St hown hK hP 1 rfl rfl 9 (by decide) (hts _ gw_226) (fun _ h9 => h9) rfl d_Fo_changesEnd_74 ?_
            refine va_get (D := (dC, dI)) (ci := 1) (v := .ref cat) (C := R_Ch) (T := F_Ch) (N := 6) hx hb hts i_Ch hown hK hP 4 rfl rfl 0 (by decide) (hts _ gw_89) (fun _ h9 => h9) rfl d_Fo_changesEnd_77 ?_
            refine lv_iload_n hx hb d_Fo_changesEnd_80 rfl (lv_at hl 2 rfl) ?_
            refine lv_iload hx hb d_Fo_changesEnd_81 (lv_at hl 5 rfl) ?_
            refine lv_iadd hx hb d_Fo_changesEnd_83 ?_
            refine lv_topi (fun x_6 ex_6 => ?_)
            obtain rfl : x_6 = nI (F + i) := by rw [ex_6]; first | done | (exact nI_add _ _)
            refine lv_iload hx hb d_Fo_changesEnd_84 (lv_at hl 4 rfl) ?_
            refine va_iast hx hb hK hP hD hS 5 0 rfl rfl (vp_in_nI (by omega) (by omega)) d_Fo_changesEnd_86 (fun H locs hP hD hS => ?_)
            rw [show (nI (F + i)).toNatClampNeg = (F + i) from nI_clamp (by omega)] at hP hD
            have hP : va_P (dC, dI) classes [(h, .inr (2, [.ref sk])), (sk, .inr (9, [.ref b_y, sk_from, sk_firstDependency, .ref fcA, sk_dependencies, sk_hashes, sk_byHash, sk_leansOn, sk_leantBy, .ref ch, sk_lines, .int (nI P)])), (b_y, .inl (cB, 290000, .inl f)), (fcA, .inl (cI, 502, .inl fcf)), (ch, .inr (1, [.ref cat, ch_patch, ch_file, ch_firstLine, ch_adds, ch_files])), (cat, .inl (cI, 38000, .inl (upd caf (F + i) (nI (sS f en (a + 2) i)))))] H := hP
            have hD : va_D A [(h, .inr (2, [.ref sk])), (sk, .inr (9, [.ref b_y, sk_from, sk_firstDependency, .ref fcA, sk_dependencies, sk_hashes, sk_byHash, sk_leansOn, sk_leantBy, .ref ch, sk_lines, .int (nI P)])), (b_y, .inl (cB, 290000, .inl f)), (fcA, .inl (cI, 502, .inl fcf)), (ch, .inr (1, [.ref cat, ch_patch, ch_file, ch_firstLine, ch_adds, ch_files])), (cat, .inl (cI, 38000, .inl (upd caf (F + i) (nI (sS f en (a + 2) i)))))] := hD
            refine lv_aload_n hx hb d_Fo_changesEnd_87 rfl (lv_at hl 0 rfl) ?_
            refine lv_iload hx hb d_Fo_changesEnd_88 (lv_at hl 4 rfl) ?_
            refine lv_iload_n hx hb d_Fo_changesEnd_90 rfl (lv_at hl 1 rfl) ?_
            have hPc := hP.sub (ws' := [(h, .inr (2, [.ref sk])), (sk, .inr (9, [.ref b_y, sk_from, sk_firstDependency, .ref fcA, sk_dependencies, sk_hashes, sk_byHash, sk_leansOn, sk_leantBy, .ref ch, sk_lines, .int (nI P)])), (b_y, .inl (cB, 290000, .inl f))]) [0, 1, 2] rfl
            have hDc := hD.sub (ws' := [(h, .inr (2, [.ref sk])), (sk, .inr (9, [.ref b_y, sk_from, sk_firstDependency, .ref fcA, sk_dependencies, sk_hashes, sk_byHash, sk_leansOn, sk_leantBy, .ref ch, sk_lines, .int (nI P)])), (b_y, .inl (cB, 290000, .inl f))]) [0, 1, 2] (by decide) rfl
            have hFc := va_free (wc := [(h, .inr (2, [.ref sk])), (sk, .inr (9, [.ref b_y, sk_from, sk_firstDependency, .ref fcA, sk_dependencies, sk_hashes, sk_byHash, sk_leansOn, sk_leantBy, .ref ch, sk_lines, .int (nI P)])), (b_y, .inl (cB, 290000, .inl f))]) hD hS hA [0, 1, 2] rfl
            refine va_calli (va_runV (As := [.int (nI (sS f en (a + 2) i)), .int (nI en)]) (rest := []) ⟨hx, hb, hml, hown, hts⟩ (m_Fo_changeEnd l dC dI cI cB cL cZ cR h sk b_y  (sk_from) (sk_firstDependency) (.ref fcA) (sk_dependencies) (sk_hashes) (sk_byHash) (sk_leansOn) (sk_leantBy) (.ref ch) (sk_lines) (.int (nI P)) f en (sS f en (a + 2) i) H.size he n_56) (cwV 2 hts (xg_V gw_786 gw_788 (xg_p 8 (q := (⟨"PatchStore$Form", "changeEnd", "(II)I"⟩, 1)) (by decide +kernel)) gw_7 gw_789) rfl rfl rfl (by decide +kernel) ⟨Nat.le_of_ble_eq_true rfl, Nat.le_of_ble_eq_true rfl⟩) ⟨xw_blind, va_recv hK hPc (ci := 2) (q0 := 0) rfl rfl, fun U hU hW => ⟨rfl, by rw [hU], by rw [hU]; exact hPc, va_K.moved hW.alike hK, hDc.weaken (fun _ _ _ _ => trivial)⟩⟩ rfl rfl hl.1 rfl (lv_room (Nat.le_of_ble_eq_true rfl)) d_Fo_changesEnd_91 ⟨Nat.le_of_ble_eq_true rfl, Nat.le_of_ble_eq_true rfl⟩) hS (fun q _ h => hFc q h) hFc (fun r9 q0 t H1 locs ht hvm hw hB hz1 hk1 hS => ?_)
            obtain ⟨hP1, hK1, hD1⟩ := hB
            rw [ht] at hP1
            obtain ⟨hP, hD⟩ := va_join (wr := [(fcA, .inl (cI, 502, .inl fcf)), (ch, .inr (1, [.ref cat, ch_patch, ch_file, ch_firstLine, ch_adds, ch_files])), (cat, .inl (cI, 38000, .inl (upd caf (F + i) (nI (sS f en (a + 2) i)))))]) (w1 := [(h, .inr (2, [.ref sk])), (sk, .inr (9, [.ref b_y, sk_from, sk_firstDependency, .ref fcA, sk_dependencies, sk_hashes, sk_byHash, sk_leansOn, sk_leantBy, .ref ch, sk_lines, .int (nI P)])), (b_y, .inl (cB, 290000, .inl f))]) hP hD [0, 1, 2] [3, 4, 5] rfl rfl (by decide) (by decide) hk1 hFc hP1 hD1
            generalize H1 = H at hP hS ⊢
            have hP : va_P (dC, dI) classes [(fcA, .inl (cI, 502, .inl fcf)), (ch, .inr (1, [.ref cat, ch_patch, ch_file, ch_firstLine, ch_adds, ch_files])), (cat, .inl (cI, 38000, .inl (upd caf (F + i) (nI (sS f en (a + 2) i))))), (h, .inr (2, [.ref sk])), (sk, .inr (9, [.ref b_y, sk_from, sk_firstDependency, .ref fcA, sk_dependencies, sk_hashes, sk_byHash, sk_leansOn, sk_leantBy, .ref ch, sk_lines, .int (nI P)])), (b_y, .inl (cB, 290000, .inl f))] H := hP
            have hD : va_D A [(fcA, .inl (cI, 502, .inl fcf)), (ch, .inr (1, [.ref cat, ch_patch, ch_file, ch_firstLine, ch_adds, ch_files])), (cat, .inl (cI, 38000, .inl (upd caf (F + i) (nI (sS f en (a + 2) i))))), (h, .inr (2, [.ref sk])), (sk, .inr (9, [.ref b_y, sk_from, sk_firstDependency, .ref fcA, sk_dependencies, sk_hashes, sk_byHash, sk_leansOn, sk_leantBy, .ref ch, sk_lines, .int (nI P)])), (b_y, .inl (cB, 290000, .inl f))] := hD
            rcases hw with ⟨hR, rfl⟩ | ⟨rfl, hR⟩
            · have hP : va_P (dC, dI) classes [(fcA, .inl (cI, 502, .inl fcf)), (ch, .inr (1, [.ref cat, ch_patch, ch_file, ch_firstLine, ch_adds, ch_files])), (cat, .inl (cI, 38000, .inl (upd caf (F + i) (nI (sS f en (a + 2) i))))), (h, .inr (2, [.ref sk])), (sk, .inr (9, [.ref b_y, sk_from, sk_firstDependency, .ref fcA, sk_dependencies, sk_hashes, sk_byHash, sk_leansOn, sk_leantBy, .ref ch, sk_lines, .int (nI P)])), (b_y, .inl (cB, 290000, .inl f))] H := hP
              have hD : va_D A [(fcA, .inl (cI, 502, .inl fcf)), (ch, .inr (1, [.ref cat, ch_patch, ch_file, ch_firstLine, ch_adds, ch_files])), (cat, .inl (cI, 38000, .inl (upd caf (F + i) (nI (sS f en (a + 2) i))))), (h, .inr (2, [.ref sk])), (sk, .inr (9, [.ref b_y, sk_from, sk_firstDependency, .ref fcA, sk_dependencies, sk_hashes, sk_byHash, sk_leansOn, sk_leantBy, .ref ch, sk_lines, .int (nI P)])), (b_y, .inl (cB, 290000, .inl f))] := hD
              obtain rfl : sS f en (a + 2) (i + 1) = q0 := chN_eq hR
              have hch1 : chain f en (a + 2) (i + 1) := fun j z => if h9 : j = i then h9 ▸ ⟨n_56, hR⟩ else hch j (by omega)
              refine lv_istore (lv' := [(5, .int (nI (sS f en (a + 2) (i + 1)))), (0, .ref h), (2, .int (nI en)), (3, .int (nI F)), (4, .int (nI (tw f a))), (6, .int (nI i))]) hx hb d_Fo_changesEnd_94 hl (by decide) rfl (fun ls hl => ?_)
              refine lv_iinc (v := nI (i + 1)) (lv' := [(6, .int (nI (i + 1))), (5, .int (nI (sS f en (a + 2) (i + 1)))), (0, .ref h), (2, .int (nI en)), (3, .int (nI F)), (4, .int (nI (tw f a)))]) hx hb d_Fo_changesEnd_96 hl (k := 5) rfl (by exact nI_add _ _) (by decide) rfl (fun ls hl => ?_)
              refine lv_goto (tgt := 41) hx hb d_Fo_changesEnd_99 (by decide) ?_
              exact ih_41 (i + 1) (upd caf (F + i) (nI (sS f en (a + 2) i))) _ _ _ (by omega) (by omega) (hch1) (fun j z => if h9 : j = i then h9 ▸ upd_eq _ _ _ else (upd_ne _ (by omega)).trans (hca j (by omega))) (fun k z => (upd_ne _ (by omega)).trans (hfr k z)) (hR.le.2) (hP.sub [3, 4, 5, 0, 1, 2] rfl) (hD.sub [3, 4, 5, 0, 1, 2] (by decide) rfl) hS (lv_sub hl [2, 3, 4, 5, 1, 0] rfl)
            · have hP : va_P (dC, dI) classes [(fcA, .inl (cI, 502, .inl fcf)), (ch, .inr (1, [.ref cat, ch_patch, ch_file, ch_firstLine, ch_adds, ch_files])), (cat, .inl (cI, 38000, .inl (upd caf (F + i) (nI (sS f en (a + 2) i))))), (h, .inr (2, [.ref sk])), (sk, .inr (9, [.ref b_y, sk_from, sk_firstDependency, .ref fcA, sk_dependencies, sk_hashes, sk_byHash, sk_leansOn, sk_leantBy, .ref ch, sk_lines, .int (nI P)])), (b_y, .inl (cB, 290000, .inl f))] H := hP
              have hD : va_D A [(fcA, .inl (cI, 502, .inl fcf)), (ch, .inr (1, [.ref cat, ch_patch, ch_file, ch_firstLine, ch_adds, ch_files])), (cat, .inl (cI, 38000, .inl (upd caf (F + i) (nI (sS f en (a + 2) i))))), (h, .inr (2, [.ref sk])), (sk, .inr (9, [.ref b_y, sk_from, sk_firstDependency, .ref fcA, sk_dependencies, sk_hashes, sk_byHash, sk_leansOn, sk_leantBy, .ref ch, sk_lines, .int (nI P)])), (b_y, .inl (cB, 290000, .inl f))] := hD
              have hbad : ¬ (¬ tw f a = 0 ∧ chain f en (a + 2) (tw f a)) := fun z => hR _ (z.2 i n_45).2
              refine lv_istore (lv' := [(5, .int (-1)), (0, .ref h), (2, .int (nI en)), (3, .int (nI F)), (4, .int (nI (tw f a))), (6, .int (nI i))]) hx hb d_Fo_changesEnd_94 hl (by decide) rfl (fun ls hl => ?_)
              refine lv_iinc (v := nI (i + 1)) (lv' := [(6, .int (nI (i + 1))), (5, .int (-1)), (0, .ref h), (2, .int (nI en)), (3, .int (nI F)), (4, .int (nI (tw f a)))]) hx hb d_Fo_changesEnd_96 hl (k := 5) rfl (by exact nI_add _ _) (by decide) rfl (fun ls hl => ?_)
              refine lv_goto (tgt := 41) hx hb d_Fo_changesEnd_99 (by decide) ?_
              refine lv_iload hx hb d_Fo_changesEnd_41 (lv_at hl 0 rfl) ?_
              refine lv_iload hx hb d_Fo_changesEnd_43 (lv_at hl 5 rfl) ?_
              refine lv_icmp_ge (tgt := 102) hx hb d_Fo_changesEnd_45 (by decide) (fun c_45 => ?_) (fun c_45 => ?_)
              · have n_45 : (tw f a) ≤ (i + 1) := (nI_leI (a := (tw f a)) (b := (i + 1)) (by omega) (by omega)).mp c_45
                refine lv_aload_n hx hb d_Fo_changesEnd_102 rfl (lv_at hl 2 rfl) ?_
                refine va_get (D := (dC, dI)) (ci := 2) (v := .ref sk) (C := R_Fo) (T := F_Fo) (N := 1) hx hb hts i_Fo hown hK hP 3 rfl rfl 0 (by decide) (hts _ gw_280) (fun _ h9 => h9) rfl d_Fo_changesEnd_103 ?_
                refine va_get (D := (dC, dI)) (ci := 9) (v := .ref fcA) (C := R_St) (T := F_St) (N := 12) hx hb hts i_St hown hK hP 4 rfl rfl 3 (by decide) (hts _ gw_198) (fun _ h9 => h9) rfl d_Fo_changesEnd_106 ?_
                refine lv_aload_n hx hb d_Fo_changesEnd_109 rfl (lv_at hl 2 rfl) ?_
                refine va_get (D := (dC, dI)) (ci := 2) (v := .ref sk) (C := R_Fo) (T := F_Fo) (N := 1) hx hb hts i_Fo hown hK hP 3 rfl rfl 0 (by decide) (hts _ gw_280) (fun _ h9 => h9) rfl d_Fo_changesEnd_110 ?_
                refine va_get (D := (dC, dI)) (ci := 9) (v := .int (nI P)) (C := R_St) (T := F_St) (N := 12) hx hb hts i_St hown hK hP 4 rfl rfl 11 (by decide) (hts _ gw_239) (fun _ h9 => h9) rfl d_Fo_changesEnd_113 ?_
                refine lv_iconst (v := 1) hx hb d_Fo_changesEnd_116 (by decide) ?_
                refine lv_iadd hx hb d_Fo_changesEnd_117 ?_
                refine lv_topi (fun x_7 ex_7 => ?_)
                obtain rfl : x_7 = nI (P + 1) := by rw [ex_7]; first | done | (exact nI_add _ _)
                refine lv_iload_n hx hb d_Fo_changesEnd_118 rfl (lv_at hl 4 rfl) ?_
                refine lv_iload hx hb d_Fo_changesEnd_119 (lv_at hl 5 rfl) ?_
                refine lv_iadd hx hb d_Fo_changesEnd_121 ?_
                refine lv_topi (fun x_8 ex_8 => ?_)
                obtain rfl : x_8 = nI (F + (tw f a)) := by rw [ex_8]; first | done | (exact nI_add _ _)
                refine va_iast hx hb hK hP hD hS 0 0 rfl rfl (vp_in_nI (by omega) (by omega)) d_Fo_changesEnd_122 (fun H locs hP hD hS => ?_)
                rw [show (nI (P + 1)).toNatClampNeg = (P + 1) from nI_clamp (by omega)] at hP hD
                have hP : va_P (dC, dI) classes [(fcA, .inl (cI, 502, .inl (upd fcf (P + 1) (nI (F + (tw f a)))))), (ch, .inr (1, [.ref cat, ch_patch, ch_file, ch_firstLine, ch_adds, ch_files])), (cat, .inl (cI, 38000, .inl (upd caf (F + i) (nI (sS f en (a + 2) i))))), (h, .inr (2, [.ref sk])), (sk, .inr (9, [.ref b_y, sk_from, sk_firstDependency, .ref fcA, sk_dependencies, sk_hashes, sk_byHash, sk_leansOn, sk_leantBy, .ref ch, sk_lines, .int (nI P)])), (b_y, .inl (cB, 290000, .inl f))] H := hP
                have hD : va_D A [(fcA, .inl (cI, 502, .inl (upd fcf (P + 1) (nI (F + (tw f a)))))), (ch, .inr (1, [.ref cat, ch_patch, ch_file, ch_firstLine, ch_adds, ch_files])), (cat, .inl (cI, 38000, .inl (upd caf (F + i) (nI (sS f en (a + 2) i))))), (h, .inr (2, [.ref sk])), (sk, .inr (9, [.ref b_y, sk_from, sk_firstDependency, .ref fcA, sk_dependencies, sk_hashes, sk_byHash, sk_leansOn, sk_leantBy, .ref ch, sk_lines, .int (nI P)])), (b_y, .inl (cB, 290000, .inl f))] := hD
                refine lv_iload hx hb d_Fo_changesEnd_123 (lv_at hl 1 rfl) ?_
                have hP := hP.sub (ws' := [(h, .inr (2, [.ref sk])), (sk, .inr (9, [.ref b_y, sk_from, sk_firstDependency, .ref fcA, sk_dependencies, sk_hashes, sk_byHash, sk_leansOn, sk_leantBy, .ref ch, sk_lines, .int (nI P)])), (b_y, .inl (cB, 290000, .inl f)), (fcA, .inl (cI, 502, .inl (upd fcf (P + 1) (nI (F + (tw f a)))))), (ch, .inr (1, [.ref cat, ch_patch, ch_file, ch_firstLine, ch_adds, ch_files])), (cat, .inl (cI, 38000, .inl (upd caf (F + i) (nI (sS f en (a + 2) i)))))]) [3, 4, 5, 0, 1, 2] rfl
                have hD := hD.sub (ws' := [(h, .inr (2, [.ref sk])), (sk, .inr (9, [.ref b_y, sk_from, sk_firstDependency, .ref fcA, sk_dependencies, sk_hashes, sk_byHash, sk_leansOn, sk_leantBy, .ref ch, sk_lines, .int (nI P)])), (b_y, .inl (cB, 290000, .inl f)), (fcA, .inl (cI, 502, .inl (upd fcf (P + 1) (nI (F + (tw f a)))))), (ch, .inr (1, [.ref cat, ch_patch, ch_file, ch_firstLine, ch_adds, ch_files])), (cat, .inl (cI, 38000, .inl (upd caf (F + i) (nI (sS f en (a + 2) i)))))]) [3, 4, 5, 0, 1, 2] (by decide) rfl
                rw [← hQe]
                exact W.iret (v := (-1)) hx hb hr (fun t ht hW => ⟨⟨_, (upd caf (F + i) (nI (sS f en (a + 2) i)), upd fcf (P + 1) (nI (F + (tw f a)))), rfl, ⟨Or.inr ⟨rfl, hbad⟩, fun k z => (upd_ne _ (by omega)).trans (hfr k z), fun k z => upd_ne _ (by omega)⟩, by rw [ht]; exact hP, va_K.moved hW.alike hK, hD⟩, hS.F ht⟩) hS.2.2 d_Fo_changesEnd_125
              · have n_45 : (i + 1) < (tw f a) := Nat.lt_of_not_le (fun z => c_45 ((nI_leI (a := (tw f a)) (b := (i + 1)) (by omega) (by omega)).mpr z))
                have hlow := hch.low
                refine lv_iload hx hb d_Fo_changesEnd_48 (lv_at hl 1 rfl) ?_
                refine lv_if_lt (tgt := 68) hx hb d_Fo_changesEnd_50 (by decide) (fun _ => ?_) (fun c_50 => absurd (by decide) c_50)
                refine lv_iconst (v := (-1)) hx hb d_Fo_changesEnd_68 (by decide) ?_
                have hP := hP.sub (ws' := [(h, .inr (2, [.ref sk])), (sk, .inr (9, [.ref b_y, sk_from, sk_firstDependency, .ref fcA, sk_dependencies, sk_hashes, sk_byHash, sk_leansOn, sk_leantBy, .ref ch, sk_lines, .int (nI P)])), (b_y, .inl (cB, 290000, .inl f)), (fcA, .inl (cI, 502, .inl fcf)), (ch, .inr (1, [.ref cat, ch_patch, ch_file, ch_firstLine, ch_adds, ch_files])), (cat, .inl (cI, 38000, .inl (upd caf (F + i) (nI (sS f en (a + 2) i)))))]) [3, 4, 5, 0, 1, 2] rfl
                have hD := hD.sub (ws' := [(h, .inr (2, [.ref sk])), (sk, .inr (9, [.ref b_y, sk_from, sk_firstDependency, .ref fcA, sk_dependencies, sk_hashes, sk_byHash, sk_leansOn, sk_leantBy, .ref ch, sk_lines, .int (nI P)])), (b_y, .inl (cB, 290000, .inl f)), (fcA, .inl (cI, 502, .inl fcf)), (ch, .inr (1, [.ref cat, ch_patch, ch_file, ch_firstLine, ch_adds, ch_files])), (cat, .inl (cI, 38000, .inl (upd caf (F + i) (nI (sS f en (a + 2) i)))))]) [3, 4, 5, 0, 1, 2] (by decide) rfl
                rw [← hQe]
                exact W.iret (v := (-1)) hx hb hr (fun t ht hW => ⟨⟨_, (upd caf (F + i) (nI (sS f en (a + 2) i)), fcf), rfl, ⟨Or.inr ⟨rfl, hbad⟩, fun k z => (upd_ne _ (by omega)).trans (hfr k z), fun _ _ => rfl⟩, by rw [ht]; exact hP, va_K.moved hW.alike hK, hD⟩, hS.F ht⟩) hS.2.2 d_Fo_changesEnd_69
    exact loop_41 _ 0 ca _ _ _ (Nat.lt_succ_self _) (Nat.zero_le _) (fun j z => absurd z (Nat.not_lt_zero _)) (fun j z => absurd z (Nat.not_lt_zero _)) (fun _ _ => rfl) (ha) (hP.sub [0, 4, 5, 1, 2, 3] rfl) (hD.sub [0, 4, 5, 1, 2, 3] (by decide) rfl) hS (lv_sub hl [4, 6, 3, 2, 1, 0] rfl)
  · have n_28 : (tw f a) = 0 := (nI_eq (a := (tw f a)) (b := 0) (by omega) (by omega)).mp c_28
    have hbad : ¬ (¬ tw f a = 0 ∧ chain f en (a + 2) (tw f a)) := fun z => z.1 n_28
    refine lv_iconst (v := (-1)) hx hb d_Fo_changesEnd_31 (by decide) ?_
    have hP := hP.sub (ws' := [(h, .inr (2, [.ref sk])), (sk, .inr (9, [.ref b_y, sk_from, sk_firstDependency, .ref fcA, sk_dependencies, sk_hashes, sk_byHash, sk_leansOn, sk_leantBy, .ref ch, sk_lines, .int (nI P)])), (b_y, .inl (cB, 290000, .inl f)), (fcA, .inl (cI, 502, .inl fcf)), (ch, .inr (1, [.ref cat, ch_patch, ch_file, ch_firstLine, ch_adds, ch_files])), (cat, .inl (cI, 38000, .inl ca))]) [0, 4, 5, 1, 2, 3] rfl
    have hD := hD.sub (ws' := [(h, .inr (2, [.ref sk])), (sk, .inr (9, [.ref b_y, sk_from, sk_firstDependency, .ref fcA, sk_dependencies, sk_hashes, sk_byHash, sk_leansOn, sk_leantBy, .ref ch, sk_lines, .int (nI P)])), (b_y, .inl (cB, 290000, .inl f)), (fcA, .inl (cI, 502, .inl fcf)), (ch, .inr (1, [.ref cat, ch_patch, ch_file, ch_firstLine, ch_adds, ch_files])), (cat, .inl (cI, 38000, .inl ca))]) [0, 4, 5, 1, 2, 3] (by decide) rfl
    rw [← hQe]
    exact W.iret (v := (-1)) hx hb hr (fun t ht hW => ⟨⟨_, (ca, fcf), rfl, ⟨Or.inr ⟨rfl, hbad⟩, fun _ _ => rfl, fun _ _ => rfl⟩, by rw [ht]; exact hP, va_K.moved hW.alike hK, hD⟩, hS.F ht⟩) hS.2.2 d_Fo_changesEnd_32
end
section
/-! 57.form4.lean.txt -/
theorem gw_774 : (Jvm.Cond.methodLink "PatchStore$Form" (29 : Nat) ({ cls := "PatchStore$Form", name := "isRising", desc := "(II)Z" } : Jvm.MethodName)) ∈ xg_1 := xg_s4 54 rfl rfl
theorem gw_776 : (Jvm.Cond.instanceMethod ({ cls := "PatchStore$Form", name := "isRising", desc := "(II)Z" } : Jvm.MethodName)) ∈ xg_1 := xg_s4 56 rfl rfl
theorem gw_777 : (Jvm.Cond.code ({ cls := "PatchStore$Form", name := "isRising", desc := "(II)Z" } : Jvm.MethodName) prog_3_method_4_code (5 : Nat) (Option.some Jvm.ClassFile.FieldType.boolean)) ∈ xg_1 := xg_s4 57 rfl rfl
theorem gw_781 : (Jvm.Cond.methodLink "PatchStore$Form" (33 : Nat) ({ cls := "PatchStore$Form", name := "changesEnd", desc := "(II)I" } : Jvm.MethodName)) ∈ xg_1 := xg_s4 61 rfl rfl
theorem gw_783 : (Jvm.Cond.instanceMethod ({ cls := "PatchStore$Form", name := "changesEnd", desc := "(II)I" } : Jvm.MethodName)) ∈ xg_1 := xg_s4 63 rfl rfl
theorem gw_784 : (Jvm.Cond.code ({ cls := "PatchStore$Form", name := "changesEnd", desc := "(II)I" } : Jvm.MethodName) prog_3_method_5_code (7 : Nat) (Option.some Jvm.ClassFile.FieldType.int)) ∈ xg_1 := xg_s4 64 rfl rfl
theorem chain.top {f : Nat → Int32} {en a T : Nat} (h : chain f en a T) (hT : ¬ T = 0) : sS f en a T ≤ en := by
  have h1 := (h (T - 1) (by omega)).2.le.2
  rwa [show T - 1 + 1 = T by omega] at h1
theorem nI_nm1 {n : Nat} (h : n < 2 ^ 31) : ¬ (-1 : Int32) = nI n := by
  intro z
  have := congrArg Int32.toInt z
  rw [nI_toInt h] at this
  have h1 : (-1 : Int32).toInt = -1 := by decide
  omega
set_option maxHeartbeats 4000000 in
set_option maxRecDepth 100000 in
/-- whether the candidate has the form of bytes -/
theorem m_Fo_isKept (l : Launch) (dC : Nat → ClassId) (dI : Nat → Nat → Nat) (cI cB cL cZ cR : ClassId) (h sk b_y fcA ch cat fr : Nat) (sk_firstDependency sk_dependencies sk_hashes sk_byHash sk_leansOn sk_leantBy sk_lines ch_patch ch_file ch_firstLine ch_adds ch_files : Value) (f ca fcf frf : Nat → Int32) (P F s0 en : Nat) (sz : Nat) (he : en ≤ 290000) (hs0 : frf P = nI s0) (hen : frf (P + 1) = nI en) (hse0 : s0 ≤ en) (hP5 : P ≤ 500) (hF : fcf P = nI F) (hF2 : F < 38000) (hroom : ∀ i, i < tw f (s0 + 2 + tw f s0 * 32) → s0 + 4 + 7 * i < en → F + i < 38000) : Met l y_Fo_isKept ws_Fo_isKept ({ frames := 5, cells := 0, slots := 0, locals := 300 }) (xw_Pc dC dI [(cI, .int), (cB, .byte), (cL, .long), (cZ, .boolean), (cR, .object "PatchStore$Repository")] [.ref h] [(h, .inr (2, [.ref sk])), (sk, .inr (9, [.ref b_y, .ref fr, sk_firstDependency, .ref fcA, sk_dependencies, sk_hashes, sk_byHash, sk_leansOn, sk_leantBy, .ref ch, sk_lines, .int (nI P)])), (b_y, .inl (cB, 290000, .inl f)), (fcA, .inl (cI, 502, .inl fcf)), (ch, .inr (1, [.ref cat, ch_patch, ch_file, ch_firstLine, ch_adds, ch_files])), (cat, .inl (cI, 38000, .inl ca)), (fr, .inl (cI, 502, .inl frf))] sz) (va_Qi (fun (r : Int32) (u : (Nat → Int32) × (Nat → Int32)) => ((r = 1 ∧ kept f s0 en ∧ (∀ j, j < tw f (s0 + 2 + tw f s0 * 32) → u.1 (F + j) = nI (sS f en (s0 + 2 + tw f s0 * 32 + 2) j)) ∧ u.2 = upd fcf (P + 1) (nI (F + tw f (s0 + 2 + tw f s0 * 32)))) ∨ (r = 0 ∧ ¬ kept f s0 en)) ∧ (∀ k, k < F → u.1 k = ca k) ∧ (∀ k, k ≤ P → u.2 k = fcf k)) (fun u t => xw_B dC dI [(cI, .int), (cB, .byte), (cL, .long), (cZ, .boolean), (cR, .object "PatchStore$Repository")] (va_A [(h, .inr (2, [.ref sk])), (sk, .inr (9, [.ref b_y, .ref fr, sk_firstDependency, .ref fcA, sk_dependencies, sk_hashes, sk_byHash, sk_leansOn, sk_leantBy, .ref ch, sk_lines, .int (nI P)])), (b_y, .inl (cB, 290000, .inl f)), (fcA, .inl (cI, 502, .inl fcf)), (ch, .inr (1, [.ref cat, ch_patch, ch_file, ch_firstLine, ch_adds, ch_files])), (cat, .inl (cI, 38000, .inl ca)), (fr, .inl (cI, 502, .inl frf))] sz) [(h, .inr (2, [.ref sk])), (sk, .inr (9, [.ref b_y, .ref fr, sk_firstDependency, .ref fcA, sk_dependencies, sk_hashes, sk_byHash, sk_leansOn, sk_leantBy, .ref ch, sk_lines, .int (nI P)])), (b_y, .inl (cB, 290000, .inl f)), (fcA, .inl (cI, 502, .inl u.2)), (ch, .inr (1, [.ref cat, ch_patch, ch_file, ch_firstLine, ch_adds, ch_files])), (cat, .inl (cI, 38000, .inl u.1)), (fr, .inl (cI, 502, .inl frf))] t) (va_A [(h, .inr (2, [.ref sk])), (sk, .inr (9, [.ref b_y, .ref fr, sk_firstDependency, .ref fcA, sk_dependencies, sk_hashes, sk_byHash, sk_leansOn, sk_leantBy, .ref ch, sk_lines, .int (nI P)])), (b_y, .inl (cB, 290000, .inl f)), (fcA, .inl (cI, 502, .inl fcf)), (ch, .inr (1, [.ref cat, ch_patch, ch_file, ch_firstLine, ch_adds, ch_files])), (cat, .inl (cI, 38000, .inl ca)), (fr, .inl (cI, 502, .inl frf))] sz)) 0 0 (va_A [(h, .inr (2, [.ref sk])), (sk, .inr (9, [.ref b_y, .ref fr, sk_firstDependency, .ref fcA, sk_dependencies, sk_hashes, sk_byHash, sk_leansOn, sk_leantBy, .ref ch, sk_lines, .int (nI P)])), (b_y, .inl (cB, 290000, .inl f)), (fcA, .inl (cI, 502, .inl fcf)), (ch, .inr (1, [.ref cat, ch_patch, ch_file, ch_firstLine, ch_adds, ch_files])), (cat, .inl (cI, 38000, .inl ca)), (fr, .inl (cI, 502, .inl frf))] sz) := by
  refine Met.ofW (cc := prog_3_method_3_code) (maxL := 5) (ret := (Option.some Jvm.ClassFile.FieldType.boolean)) (by decide) rfl ?_
  intro p e s m args below meth c s₁ B hml hv
  obtain ⟨rfl, hsz, hP, hK, hD0⟩ := hv
  have hx := B.exec
  have hb := B.bytes
  have hr := B.returns
  have hts0 := atoms_spec (ws := ws_Fo_isKept) B.pre
  have hts : ∀ w ∈ xg_1, w.before _ s = true := fun w h => hts0 w (List.mem_cons_of_mem _ h)
  have hown : s.vm.findClass "PatchStore$Form" = some m.cls := findClass_of_methodNamed B.named
  have hlocks := B.notSynchronized
  subst hsz
  have hD := hD0.self (sz := s.heap.size)
  generalize hAe : va_A [(h, .inr (2, [.ref sk])), (sk, .inr (9, [.ref b_y, .ref fr, sk_firstDependency, .ref fcA, sk_dependencies, sk_hashes, sk_byHash, sk_leansOn, sk_leantBy, .ref ch, sk_lines, .int (nI P)])), (b_y, .inl (cB, 290000, .inl f)), (fcA, .inl (cI, 502, .inl fcf)), (ch, .inr (1, [.ref cat, ch_patch, ch_file, ch_firstLine, ch_adds, ch_files])), (cat, .inl (cI, 38000, .inl ca)), (fr, .inl (cI, 502, .inl frf))] s.heap.size = A at hD ⊢
  have hA : ∀ q : Nat, s.heap.size ≤ q → A q := fun q h => by rw [← hAe]; exact Or.inr h
  have hS : va_S A s.heap s.heap [] := va_S.rf
  have hl := lv_entry ([.ref h]) (n := 5) (Nat.le_of_ble_eq_true rfl)
  rw [lg_entry_eq]
  generalize (lg_sl ([.ref h]) ++ List.replicate (5 - (lg_sl ([.ref h])).length) Slot.unset).toArray = ls at hl ⊢
  have hl : lv_has ls 5 [(0, .ref h)] := hl
  generalize hQe : MQ _ _ _ _ _ _ _ = Q
  refine lv_aload_n hx hb d_Fo_isKept_0 rfl (lv_at hl 0 rfl) ?_
  refine va_get (D := (dC, dI)) (ci := 2) (v := .ref sk) (C := R_Fo) (T := F_Fo) (N := 1) hx hb hts i_Fo hown hK hP 0 rfl rfl 0 (by decide) (hts _ gw_280) (fun _ h9 => h9) rfl d_Fo_isKept_1 ?_
  refine va_get (D := (dC, dI)) (ci := 9) (v := .ref fr) (C := R_St) (T := F_St) (N := 12) hx hb hts i_St hown hK hP 1 rfl rfl 1 (by decide) (hts _ gw_190) (fun _ h9 => h9) rfl d_Fo_isKept_4 ?_
  refine lv_aload_n hx hb d_Fo_isKept_7 rfl (lv_at hl 0 rfl) ?_
  refine va_get (D := (dC, dI)) (ci := 2) (v := .ref sk) (C := R_Fo) (T := F_Fo) (N := 1) hx hb hts i_Fo hown hK hP 0 rfl rfl 0 (by decide) (hts _ gw_280) (fun _ h9 => h9) rfl d_Fo_isKept_8 ?_
  refine va_get (D := (dC, dI)) (ci := 9) (v := .int (nI P)) (C := R_St) (T := F_St) (N := 12) hx hb hts i_St hown hK hP 1 rfl rfl 11 (by decide) (hts _ gw_239) (fun _ h9 => h9) rfl d_Fo_isKept_11 ?_
  refine va_iald hx hb hK hP 6 0 rfl rfl (vp_in_nI (by omega) (by omega)) d_Fo_isKept_14 ?_
  rw [show (nI P).toNatClampNeg = P from nI_clamp (by omega)]
  refine lv_topi (fun x_1 ex_1 => ?_)
  obtain rfl : x_1 = nI s0 := by rw [ex_1]; first | done | (exact hs0)
  refine lv_istore_n (lv' := [(1, .int (nI s0)), (0, .ref h)]) hx hb d_Fo_isKept_15 rfl hl (by decide) rfl (fun ls hl => ?_)
  refine lv_aload_n hx hb d_Fo_isKept_16 rfl (lv_at hl 1 rfl) ?_
  refine va_get (D := (dC, dI)) (ci := 2) (v := .ref sk) (C := R_Fo) (T := F_Fo) (N := 1) hx hb hts i_Fo hown hK hP 0 rfl rfl 0 (by decide) (hts _ gw_280) (fun _ h9 => h9) rfl d_Fo_isKept_17 ?_
  refine va_get (D := (dC, dI)) (ci := 9) (v := .ref fr) (C := R_St) (T := F_St) (N := 12) hx hb hts i_St hown hK hP 1 rfl rfl 1 (by decide) (hts _ gw_190) (fun _ h9 => h9) rfl d_Fo_isKept_20 ?_
  refine lv_aload_n hx hb d_Fo_isKept_23 rfl (lv_at hl 1 rfl) ?_
  refine va_get (D := (dC, dI)) (ci := 2) (v := .ref sk) (C := R_Fo) (T := F_Fo) (N := 1) hx hb hts i_Fo hown hK hP 0 rfl rfl 0 (by decide) (hts _ gw_280) (fun _ h9 => h9) rfl d_Fo_isKept_24 ?_
  refine va_get (D := (dC, dI)) (ci := 9) (v := .int (nI P)) (C := R_St) (T := F_St) (N := 12) hx hb hts i_St hown hK hP 1 rfl rfl 11 (by decide) (hts _ gw_239) (fun _ h9 => h9) rfl d_Fo_isKept_27 ?_
  refine lv_iconst (v := 1) hx hb d_Fo_isKept_30 (by decide) ?_
  refine lv_iadd hx hb d_Fo_isKept_31 ?_
  refine lv_topi (fun x_2 ex_2 => ?_)
  obtain rfl : x_2 = nI (P + 1) := by rw [ex_2]; first | done | (exact nI_add _ _)
  refine va_iald hx hb hK hP 6 0 rfl rfl (vp_in_nI (by omega) (by omega)) d_Fo_isKept_32 ?_
  rw [show (nI (P + 1)).toNatClampNeg = (P + 1) from nI_clamp (by omega)]
  refine lv_topi (fun x_3 ex_3 => ?_)
  obtain rfl : x_3 = nI en := by rw [ex_3]; first | done | (exact hen)
  refine lv_istore_n (lv' := [(2, .int (nI en)), (1, .int (nI s0)), (0, .ref h)]) hx hb d_Fo_isKept_33 rfl hl (by decide) rfl (fun ls hl => ?_)
  refine lv_iload_n hx hb d_Fo_isKept_34 rfl (lv_at hl 1 rfl) ?_
  refine lv_iconst (v := 4) hx hb d_Fo_isKept_35 (by decide) ?_
  refine lv_iadd hx hb d_Fo_isKept_36 ?_
  refine lv_topi (fun x_4 ex_4 => ?_)
  obtain rfl : x_4 = nI (s0 + 4) := by rw [ex_4]; first | done | (exact nI_add _ _)
  refine lv_iload_n hx hb d_Fo_isKept_37 rfl (lv_at hl 0 rfl) ?_
  refine lv_icmp_le (tgt := 43) hx hb d_Fo_isKept_38 (by decide) (fun c_38 => ?_) (fun c_38 => ?_)
  · have n_38 : (s0 + 4) ≤ en := (nI_leI (a := (s0 + 4)) (b := en) (by omega) (by omega)).mp c_38
    refine lv_aload_n hx hb d_Fo_isKept_43 rfl (lv_at hl 2 rfl) ?_
    refine va_get (D := (dC, dI)) (ci := 2) (v := .ref sk) (C := R_Fo) (T := F_Fo) (N := 1) hx hb hts i_Fo hown hK hP 0 rfl rfl 0 (by decide) (hts _ gw_280) (fun _ h9 => h9) rfl d_Fo_isKept_44 ?_
    refine lv_iload_n hx hb d_Fo_isKept_47 rfl (lv_at hl 1 rfl) ?_
    have hPc := hP.sub (ws' := [(sk, .inr (9, [.ref b_y, .ref fr, sk_firstDependency, .ref fcA, sk_dependencies, sk_hashes, sk_byHash, sk_leansOn, sk_leantBy, .ref ch, sk_lines, .int (nI P)])), (b_y, .inl (cB, 290000, .inl f))]) [1, 2] rfl
    have hDc := hD.sub (ws' := [(sk, .inr (9, [.ref b_y, .ref fr, sk_firstDependency, .ref fcA, sk_dependencies, sk_hashes, sk_byHash, sk_leansOn, sk_leantBy, .ref ch, sk_lines, .int (nI P)])), (b_y, .inl (cB, 290000, .inl f))]) [1, 2] (by decide) rfl
    have hFc := va_free (wc := [(sk, .inr (9, [.ref b_y, .ref fr, sk_firstDependency, .ref fcA, sk_dependencies, sk_hashes, sk_byHash, sk_leansOn, sk_leantBy, .ref ch, sk_lines, .int (nI P)])), (b_y, .inl (cB, 290000, .inl f))]) hD hS hA [1, 2] rfl
    refine va_calli (va_runV (As := [.int (nI s0)]) (rest := []) ⟨hx, hb, hml, hown, hts⟩ (m_St_two l dC dI cI cB cL cZ cR sk b_y (.ref fr) (sk_firstDependency) (.ref fcA) (sk_dependencies) (sk_hashes) (sk_byHash) (sk_leansOn) (sk_leantBy) (.ref ch) (sk_lines) (.int (nI P)) f s0 s.heap.size (by omega)) (cwV 1 hts (xg_V gw_770 gw_771 gw_772 gw_3 gw_773) rfl rfl rfl (by decide +kernel) ⟨Nat.le_of_ble_eq_true rfl, Nat.le_of_ble_eq_true rfl⟩) ⟨xw_blind, va_recv hK hPc (ci := 9) (q0 := 0) rfl rfl, fun U hU hW => ⟨rfl, by rw [hU], by rw [hU]; exact hPc, va_K.moved hW.alike hK, hDc.weaken (fun _ _ _ _ => trivial)⟩⟩ rfl rfl hl.1 rfl (lv_room (Nat.le_of_ble_eq_true rfl)) d_Fo_isKept_48 ⟨Nat.le_of_ble_eq_true rfl, Nat.le_of_ble_eq_true rfl⟩) hS (fun q _ h => hFc q h) hFc (fun r9 u t H1 locs ht hvm hw hB hz1 hk1 hS => ?_)
    obtain ⟨hP1, hK1, hD1⟩ := hB
    rw [ht] at hP1
    obtain ⟨hP, hD⟩ := va_join (wr := [(h, .inr (2, [.ref sk])), (fcA, .inl (cI, 502, .inl fcf)), (ch, .inr (1, [.ref cat, ch_patch, ch_file, ch_firstLine, ch_adds, ch_files])), (cat, .inl (cI, 38000, .inl ca)), (fr, .inl (cI, 502, .inl frf))]) (w1 := [(sk, .inr (9, [.ref b_y, .ref fr, sk_firstDependency, .ref fcA, sk_dependencies, sk_hashes, sk_byHash, sk_leansOn, sk_leantBy, .ref ch, sk_lines, .int (nI P)])), (b_y, .inl (cB, 290000, .inl f))]) hP hD [1, 2] [0, 3, 4, 5, 6] rfl rfl (by decide) (by decide) hk1 hFc hP1 hD1
    generalize H1 = H at hP hS ⊢
    have hP : va_P (dC, dI) classes [(h, .inr (2, [.ref sk])), (fcA, .inl (cI, 502, .inl fcf)), (ch, .inr (1, [.ref cat, ch_patch, ch_file, ch_firstLine, ch_adds, ch_files])), (cat, .inl (cI, 38000, .inl ca)), (fr, .inl (cI, 502, .inl frf)), (sk, .inr (9, [.ref b_y, .ref fr, sk_firstDependency, .ref fcA, sk_dependencies, sk_hashes, sk_byHash, sk_leansOn, sk_leantBy, .ref ch, sk_lines, .int (nI P)])), (b_y, .inl (cB, 290000, .inl f))] H := hP
    have hD : va_D A [(h, .inr (2, [.ref sk])), (fcA, .inl (cI, 502, .inl fcf)), (ch, .inr (1, [.ref cat, ch_patch, ch_file, ch_firstLine, ch_adds, ch_files])), (cat, .inl (cI, 38000, .inl ca)), (fr, .inl (cI, 502, .inl frf)), (sk, .inr (9, [.ref b_y, .ref fr, sk_firstDependency, .ref fcA, sk_dependencies, sk_hashes, sk_byHash, sk_leansOn, sk_leantBy, .ref ch, sk_lines, .int (nI P)])), (b_y, .inl (cB, 290000, .inl f))] := hD
    subst hw
    have htw9 := tw_lt f s0
    refine lv_istore_n (lv' := [(3, .int (nI (tw f s0))), (2, .int (nI en)), (1, .int (nI s0)), (0, .ref h)]) hx hb d_Fo_isKept_51 rfl hl (by decide) rfl (fun ls hl => ?_)
    refine lv_iload_n hx hb d_Fo_isKept_52 rfl (lv_at hl 2 rfl) ?_
    refine lv_iconst (v := 2) hx hb d_Fo_isKept_53 (by decide) ?_
    refine lv_iadd hx hb d_Fo_isKept_54 ?_
    refine lv_topi (fun x_5 ex_5 => ?_)
    obtain rfl : x_5 = nI (s0 + 2) := by rw [ex_5]; first | done | (exact nI_add _ _)
    refine lv_iload_n hx hb d_Fo_isKept_55 rfl (lv_at hl 0 rfl) ?_
    refine lv_bipush (v := 32) hx hb d_Fo_isKept_56 (by decide) ?_
    refine lv_imul hx hb d_Fo_isKept_58 ?_
    refine lv_topi (fun x_6 ex_6 => ?_)
    obtain rfl : x_6 = nI ((tw f s0) * 32) := by rw [ex_6]; first | done | (exact nI_mul _ _)
    refine lv_iadd hx hb d_Fo_isKept_59 ?_
    refine lv_topi (fun x_7 ex_7 => ?_)
    obtain rfl : x_7 = nI (s0 + 2 + ((tw f s0) * 32)) := by rw [ex_7]; first | done | (exact nI_add _ _)
    refine lv_istore (lv' := [(4, .int (nI (s0 + 2 + ((tw f s0) * 32)))), (3, .int (nI (tw f s0))), (2, .int (nI en)), (1, .int (nI s0)), (0, .ref h)]) hx hb d_Fo_isKept_60 hl (by decide) rfl (fun ls hl => ?_)
    refine lv_iload hx hb d_Fo_isKept_62 (lv_at hl 0 rfl) ?_
    refine lv_iconst (v := 2) hx hb d_Fo_isKept_64 (by decide) ?_
    refine lv_iadd hx hb d_Fo_isKept_65 ?_
    refine lv_topi (fun x_8 ex_8 => ?_)
    obtain rfl : x_8 = nI ((s0 + 2 + ((tw f s0) * 32)) + 2) := by rw [ex_8]; first | done | (exact nI_add _ _)
    refine lv_iload_n hx hb d_Fo_isKept_66 rfl (lv_at hl 2 rfl) ?_
    refine lv_icmp_gt (tgt := 96) hx hb d_Fo_isKept_67 (by decide) (fun c_67 => ?_) (fun c_67 => ?_)
    · have n_67 : en < ((s0 + 2 + ((tw f s0) * 32)) + 2) := (nI_ltI (a := en) (b := ((s0 + 2 + ((tw f s0) * 32)) + 2)) (by omega) (by omega)).mp c_67
      have hno : ¬ kept f s0 en := fun z => by have := z.2.1; omega
      refine lv_iconst (v := 0) hx hb d_Fo_isKept_96 (by decide) ?_
      have hP := hP.sub (ws' := [(h, .inr (2, [.ref sk])), (sk, .inr (9, [.ref b_y, .ref fr, sk_firstDependency, .ref fcA, sk_dependencies, sk_hashes, sk_byHash, sk_leansOn, sk_leantBy, .ref ch, sk_lines, .int (nI P)])), (b_y, .inl (cB, 290000, .inl f)), (fcA, .inl (cI, 502, .inl fcf)), (ch, .inr (1, [.ref cat, ch_patch, ch_file, ch_firstLine, ch_adds, ch_files])), (cat, .inl (cI, 38000, .inl ca)), (fr, .inl (cI, 502, .inl frf))]) [0, 5, 6, 1, 2, 3, 4] rfl
      have hD := hD.sub (ws' := [(h, .inr (2, [.ref sk])), (sk, .inr (9, [.ref b_y, .ref fr, sk_firstDependency, .ref fcA, sk_dependencies, sk_hashes, sk_byHash, sk_leansOn, sk_leantBy, .ref ch, sk_lines, .int (nI P)])), (b_y, .inl (cB, 290000, .inl f)), (fcA, .inl (cI, 502, .inl fcf)), (ch, .inr (1, [.ref cat, ch_patch, ch_file, ch_firstLine, ch_adds, ch_files])), (cat, .inl (cI, 38000, .inl ca)), (fr, .inl (cI, 502, .inl frf))]) [0, 5, 6, 1, 2, 3, 4] (by decide) rfl
      rw [← hQe]
      exact W.zret (v := 0) hx hb hr nz_b0 (fun t ht hW => ⟨⟨_, (ca, fcf), rfl, ⟨Or.inr ⟨rfl, hno⟩, fun _ _ => rfl, fun _ _ => rfl⟩, by rw [ht]; exact hP, va_K.moved hW.alike hK, hD⟩, hS.F ht⟩) hS.2.2 d_Fo_isKept_97
    · have n_67 : ((s0 + 2 + ((tw f s0) * 32)) + 2) ≤ en := Nat.le_of_not_lt (fun z => c_67 ((nI_ltI (a := en) (b := ((s0 + 2 + ((tw f s0) * 32)) + 2)) (by omega) (by omega)).mpr z))
      refine lv_aload_n hx hb d_Fo_isKept_70 rfl (lv_at hl 4 rfl) ?_
      refine lv_iload_n hx hb d_Fo_isKept_71 rfl (lv_at hl 3 rfl) ?_
      refine lv_iconst (v := 2) hx hb d_Fo_isKept_72 (by decide) ?_
      refine lv_iadd hx hb d_Fo_isKept_73 ?_
      refine lv_topi (fun x_9 ex_9 => ?_)
      obtain rfl : x_9 = nI (s0 + 2) := by rw [ex_9]; first | done | (exact nI_add _ _)
      refine lv_iload_n hx hb d_Fo_isKept_74 rfl (lv_at hl 1 rfl) ?_
      have hPc := hP.sub (ws' := [(h, .inr (2, [.ref sk])), (sk, .inr (9, [.ref b_y, .ref fr, sk_firstDependency, .ref fcA, sk_dependencies, sk_hashes, sk_byHash, sk_leansOn, sk_leantBy, .ref ch, sk_lines, .int (nI P)])), (b_y, .inl (cB, 290000, .inl f))]) [0, 5, 6] rfl
      have hDc := hD.sub (ws' := [(h, .inr (2, [.ref sk])), (sk, .inr (9, [.ref b_y, .ref fr, sk_firstDependency, .ref fcA, sk_dependencies, sk_hashes, sk_byHash, sk_leansOn, sk_leantBy, .ref ch, sk_lines, .int (nI P)])), (b_y, .inl (cB, 290000, .inl f))]) [0, 5, 6] (by decide) rfl
      have hFc := va_free (wc := [(h, .inr (2, [.ref sk])), (sk, .inr (9, [.ref b_y, .ref fr, sk_firstDependency, .ref fcA, sk_dependencies, sk_hashes, sk_byHash, sk_leansOn, sk_leantBy, .ref ch, sk_lines, .int (nI P)])), (b_y, .inl (cB, 290000, .inl f))]) hD hS hA [0, 5, 6] rfl
      refine va_calli (va_runV (As := [.int (nI (s0 + 2)), .int (nI (tw f s0))]) (rest := []) ⟨hx, hb, hml, hown, hts⟩ (m_Fo_isRising l dC dI cI cB cL cZ cR h sk b_y  (.ref fr) (sk_firstDependency) (.ref fcA) (sk_dependencies) (sk_hashes) (sk_byHash) (sk_leansOn) (sk_leantBy) (.ref ch) (sk_lines) (.int (nI P)) f (s0 + 2) (tw f s0) H.size (by omega)) (cwV 2 hts (xg_V gw_774 gw_776 (xg_p 6 (q := (⟨"PatchStore$Form", "isRising", "(II)Z"⟩, 1)) (by decide +kernel)) gw_7 gw_777) rfl rfl rfl (by decide +kernel) ⟨Nat.le_of_ble_eq_true rfl, Nat.le_of_ble_eq_true rfl⟩) ⟨xw_blind, va_recv hK hPc (ci := 2) (q0 := 0) rfl rfl, fun U hU hW => ⟨rfl, by rw [hU], by rw [hU]; exact hPc, va_K.moved hW.alike hK, hDc.weaken (fun _ _ _ _ => trivial)⟩⟩ rfl rfl hl.1 rfl (lv_room (Nat.le_of_ble_eq_true rfl)) d_Fo_isKept_75 ⟨Nat.le_of_ble_eq_true rfl, Nat.le_of_ble_eq_true rfl⟩) hS (fun q _ h => hFc q h) hFc (fun r9 u t H1 locs ht hvm hw hB hz1 hk1 hS => ?_)
      obtain ⟨hP1, hK1, hD1⟩ := hB
      rw [ht] at hP1
      obtain ⟨hP, hD⟩ := va_join (wr := [(fcA, .inl (cI, 502, .inl fcf)), (ch, .inr (1, [.ref cat, ch_patch, ch_file, ch_firstLine, ch_adds, ch_files])), (cat, .inl (cI, 38000, .inl ca)), (fr, .inl (cI, 502, .inl frf))]) (w1 := [(h, .inr (2, [.ref sk])), (sk, .inr (9, [.ref b_y, .ref fr, sk_firstDependency, .ref fcA, sk_dependencies, sk_hashes, sk_byHash, sk_leansOn, sk_leantBy, .ref ch, sk_lines, .int (nI P)])), (b_y, .inl (cB, 290000, .inl f))]) hP hD [0, 5, 6] [1, 2, 3, 4] rfl rfl (by decide) (by decide) hk1 hFc hP1 hD1
      generalize H1 = H at hP hS ⊢
      have hP : va_P (dC, dI) classes [(fcA, .inl (cI, 502, .inl fcf)), (ch, .inr (1, [.ref cat, ch_patch, ch_file, ch_firstLine, ch_adds, ch_files])), (cat, .inl (cI, 38000, .inl ca)), (fr, .inl (cI, 502, .inl frf)), (h, .inr (2, [.ref sk])), (sk, .inr (9, [.ref b_y, .ref fr, sk_firstDependency, .ref fcA, sk_dependencies, sk_hashes, sk_byHash, sk_leansOn, sk_leantBy, .ref ch, sk_lines, .int (nI P)])), (b_y, .inl (cB, 290000, .inl f))] H := hP
      have hD : va_D A [(fcA, .inl (cI, 502, .inl fcf)), (ch, .inr (1, [.ref cat, ch_patch, ch_file, ch_firstLine, ch_adds, ch_files])), (cat, .inl (cI, 38000, .inl ca)), (fr, .inl (cI, 502, .inl frf)), (h, .inr (2, [.ref sk])), (sk, .inr (9, [.ref b_y, .ref fr, sk_firstDependency, .ref fcA, sk_dependencies, sk_hashes, sk_byHash, sk_leansOn, sk_leantBy, .ref ch, sk_lines, .int (nI P)])), (b_y, .inl (cB, 290000, .inl f))] := hD
      rcases hw with ⟨rfl, hri⟩ | ⟨rfl, hri⟩
      · have hP : va_P (dC, dI) classes [(fcA, .inl (cI, 502, .inl fcf)), (ch, .inr (1, [.ref cat, ch_patch, ch_file, ch_firstLine, ch_adds, ch_files])), (cat, .inl (cI, 38000, .inl ca)), (fr, .inl (cI, 502, .inl frf)), (h, .inr (2, [.ref sk])), (sk, .inr (9, [.ref b_y, .ref fr, sk_firstDependency, .ref fcA, sk_dependencies, sk_hashes, sk_byHash, sk_leansOn, sk_leantBy, .ref ch, sk_lines, .int (nI P)])), (b_y, .inl (cB, 290000, .inl f))] H := hP
        have hD : va_D A [(fcA, .inl (cI, 502, .inl fcf)), (ch, .inr (1, [.ref cat, ch_patch, ch_file, ch_firstLine, ch_adds, ch_files])), (cat, .inl (cI, 38000, .inl ca)), (fr, .inl (cI, 502, .inl frf)), (h, .inr (2, [.ref sk])), (sk, .inr (9, [.ref b_y, .ref fr, sk_firstDependency, .ref fcA, sk_dependencies, sk_hashes, sk_byHash, sk_leansOn, sk_leantBy, .ref ch, sk_lines, .int (nI P)])), (b_y, .inl (cB, 290000, .inl f))] := hD
        refine lv_if_eq (tgt := 96) hx hb d_Fo_isKept_78 (by decide) (fun c_78 => absurd c_78 (by decide)) (fun _ => ?_)
        refine lv_aload_n hx hb d_Fo_isKept_81 rfl (lv_at hl 4 rfl) ?_
        refine lv_iload hx hb d_Fo_isKept_82 (lv_at hl 0 rfl) ?_
        refine lv_iload_n hx hb d_Fo_isKept_84 rfl (lv_at hl 2 rfl) ?_
        have hPc := hP.sub (ws' := [(h, .inr (2, [.ref sk])), (sk, .inr (9, [.ref b_y, .ref fr, sk_firstDependency, .ref fcA, sk_dependencies, sk_hashes, sk_byHash, sk_leansOn, sk_leantBy, .ref ch, sk_lines, .int (nI P)])), (b_y, .inl (cB, 290000, .inl f)), (fcA, .inl (cI, 502, .inl fcf)), (ch, .inr (1, [.ref cat, ch_patch, ch_file, ch_firstLine, ch_adds, ch_files])), (cat, .inl (cI, 38000, .inl ca))]) [4, 5, 6, 0, 1, 2] rfl
        have hDc := hD.sub (ws' := [(h, .inr (2, [.ref sk])), (sk, .inr (9, [.ref b_y, .ref fr, sk_firstDependency, .ref fcA, sk_dependencies, sk_hashes, sk_byHash, sk_leansOn, sk_leantBy, .ref ch, sk_lines, .int (nI P)])), (b_y, .inl (cB, 290000, .inl f)), (fcA, .inl (cI, 502, .inl fcf)), (ch, .inr (1, [.ref cat, ch_patch, ch_file, ch_firstLine, ch_adds, ch_files])), (cat, .inl (cI, 38000, .inl ca))]) [4, 5, 6, 0, 1, 2] (by decide) rfl
        have hFc := va_free (wc := [(h, .inr (2, [.ref sk])), (sk, .inr (9, [.ref b_y, .ref fr, sk_firstDependency, .ref fcA, sk_dependencies, sk_hashes, sk_byHash, sk_leansOn, sk_leantBy, .ref ch, sk_lines, .int (nI P)])), (b_y, .inl (cB, 290000, .inl f)), (fcA, .inl (cI, 502, .inl fcf)), (ch, .inr (1, [.ref cat, ch_patch, ch_file, ch_firstLine, ch_adds, ch_files])), (cat, .inl (cI, 38000, .inl ca))]) hD hS hA [4, 5, 6, 0, 1, 2] rfl
        refine va_calli (va_runV (As := [.int (nI (s0 + 2 + ((tw f s0) * 32))), .int (nI en)]) (rest := []) ⟨hx, hb, hml, hown, hts⟩ (m_Fo_changesEnd l dC dI cI cB cL cZ cR h sk b_y fcA ch cat  (.ref fr) (sk_firstDependency) (sk_dependencies) (sk_hashes) (sk_byHash) (sk_leansOn) (sk_leantBy) (sk_lines) (ch_patch) (ch_file) (ch_firstLine) (ch_adds) (ch_files) f ca fcf P F en (s0 + 2 + ((tw f s0) * 32)) H.size he (by omega) hP5 hF hF2 (fun i z1 z2 => hroom i z1 (by omega))) (cwV 2 hts (xg_V gw_781 gw_783 (xg_p 7 (q := (⟨"PatchStore$Form", "changesEnd", "(II)I"⟩, 1)) (by decide +kernel)) gw_7 gw_784) rfl rfl rfl (by decide +kernel) ⟨Nat.le_of_ble_eq_true rfl, Nat.le_of_ble_eq_true rfl⟩) ⟨xw_blind, va_recv hK hPc (ci := 2) (q0 := 0) rfl rfl, fun U hU hW => ⟨rfl, by rw [hU], by rw [hU]; exact hPc, va_K.moved hW.alike hK, hDc.weaken (fun _ _ _ _ => trivial)⟩⟩ rfl rfl hl.1 rfl (lv_room (Nat.le_of_ble_eq_true rfl)) d_Fo_isKept_85 ⟨Nat.le_of_ble_eq_true rfl, Nat.le_of_ble_eq_true rfl⟩) hS (fun q _ h => hFc q h) hFc (fun r9 uc t H1 locs ht hvm hw hB hz1 hk1 hS => ?_)
        obtain ⟨uc, uf⟩ := uc
        dsimp only at hw
        obtain ⟨hP1, hK1, hD1⟩ := hB
        rw [ht] at hP1
        obtain ⟨hP, hD⟩ := va_join (wr := [(fr, .inl (cI, 502, .inl frf))]) (w1 := [(h, .inr (2, [.ref sk])), (sk, .inr (9, [.ref b_y, .ref fr, sk_firstDependency, .ref fcA, sk_dependencies, sk_hashes, sk_byHash, sk_leansOn, sk_leantBy, .ref ch, sk_lines, .int (nI P)])), (b_y, .inl (cB, 290000, .inl f)), (fcA, .inl (cI, 502, .inl uf)), (ch, .inr (1, [.ref cat, ch_patch, ch_file, ch_firstLine, ch_adds, ch_files])), (cat, .inl (cI, 38000, .inl uc))]) hP hD [4, 5, 6, 0, 1, 2] [3] rfl rfl (by decide) (by decide) hk1 hFc hP1 hD1
        generalize H1 = H at hP hS ⊢
        have hP : va_P (dC, dI) classes [(fr, .inl (cI, 502, .inl frf)), (h, .inr (2, [.ref sk])), (sk, .inr (9, [.ref b_y, .ref fr, sk_firstDependency, .ref fcA, sk_dependencies, sk_hashes, sk_byHash, sk_leansOn, sk_leantBy, .ref ch, sk_lines, .int (nI P)])), (b_y, .inl (cB, 290000, .inl f)), (fcA, .inl (cI, 502, .inl uf)), (ch, .inr (1, [.ref cat, ch_patch, ch_file, ch_firstLine, ch_adds, ch_files])), (cat, .inl (cI, 38000, .inl uc))] H := hP
        have hD : va_D A [(fr, .inl (cI, 502, .inl frf)), (h, .inr (2, [.ref sk])), (sk, .inr (9, [.ref b_y, .ref fr, sk_firstDependency, .ref fcA, sk_dependencies, sk_hashes, sk_byHash, sk_leansOn, sk_leantBy, .ref ch, sk_lines, .int (nI P)])), (b_y, .inl (cB, 290000, .inl f)), (fcA, .inl (cI, 502, .inl uf)), (ch, .inr (1, [.ref cat, ch_patch, ch_file, ch_firstLine, ch_adds, ch_files])), (cat, .inl (cI, 38000, .inl uc))] := hD
        rcases hw with ⟨⟨hz1, hz2, rfl, hz3, hz4⟩ | ⟨rfl, hbad⟩, hf1, hf2⟩
        · have hP : va_P (dC, dI) classes [(fr, .inl (cI, 502, .inl frf)), (h, .inr (2, [.ref sk])), (sk, .inr (9, [.ref b_y, .ref fr, sk_firstDependency, .ref fcA, sk_dependencies, sk_hashes, sk_byHash, sk_leansOn, sk_leantBy, .ref ch, sk_lines, .int (nI P)])), (b_y, .inl (cB, 290000, .inl f)), (fcA, .inl (cI, 502, .inl uf)), (ch, .inr (1, [.ref cat, ch_patch, ch_file, ch_firstLine, ch_adds, ch_files])), (cat, .inl (cI, 38000, .inl uc))] H := hP
          have hD : va_D A [(fr, .inl (cI, 502, .inl frf)), (h, .inr (2, [.ref sk])), (sk, .inr (9, [.ref b_y, .ref fr, sk_firstDependency, .ref fcA, sk_dependencies, sk_hashes, sk_byHash, sk_leansOn, sk_leantBy, .ref ch, sk_lines, .int (nI P)])), (b_y, .inl (cB, 290000, .inl f)), (fcA, .inl (cI, 502, .inl uf)), (ch, .inr (1, [.ref cat, ch_patch, ch_file, ch_firstLine, ch_adds, ch_files])), (cat, .inl (cI, 38000, .inl uc))] := hD
          have hse := chain.top hz2 hz1
          refine lv_iload_n hx hb d_Fo_isKept_88 rfl (lv_at hl 2 rfl) ?_
          refine lv_icmp_ne (tgt := 96) hx hb d_Fo_isKept_89 (by decide) (fun c_89 => ?_) (fun c_89 => ?_)
          · have n_89 : ¬ (sS f en ((s0 + 2 + ((tw f s0) * 32)) + 2) (tw f (s0 + 2 + ((tw f s0) * 32)))) = en := fun z => c_89 ((nI_eq (a := (sS f en ((s0 + 2 + ((tw f s0) * 32)) + 2) (tw f (s0 + 2 + ((tw f s0) * 32))))) (b := en) (by omega) (by omega)).mpr z)
            have hno : ¬ kept f s0 en := by first | exact hno | exact fun z => n_89 z.2.2.2.2.2
            refine lv_iconst (v := 0) hx hb d_Fo_isKept_96 (by decide) ?_
            have hP := hP.sub (ws' := [(h, .inr (2, [.ref sk])), (sk, .inr (9, [.ref b_y, .ref fr, sk_firstDependency, .ref fcA, sk_dependencies, sk_hashes, sk_byHash, sk_leansOn, sk_leantBy, .ref ch, sk_lines, .int (nI P)])), (b_y, .inl (cB, 290000, .inl f)), (fcA, .inl (cI, 502, .inl uf)), (ch, .inr (1, [.ref cat, ch_patch, ch_file, ch_firstLine, ch_adds, ch_files])), (cat, .inl (cI, 38000, .inl uc)), (fr, .inl (cI, 502, .inl frf))]) [1, 2, 3, 4, 5, 6, 0] rfl
            have hD := hD.sub (ws' := [(h, .inr (2, [.ref sk])), (sk, .inr (9, [.ref b_y, .ref fr, sk_firstDependency, .ref fcA, sk_dependencies, sk_hashes, sk_byHash, sk_leansOn, sk_leantBy, .ref ch, sk_lines, .int (nI P)])), (b_y, .inl (cB, 290000, .inl f)), (fcA, .inl (cI, 502, .inl uf)), (ch, .inr (1, [.ref cat, ch_patch, ch_file, ch_firstLine, ch_adds, ch_files])), (cat, .inl (cI, 38000, .inl uc)), (fr, .inl (cI, 502, .inl frf))]) [1, 2, 3, 4, 5, 6, 0] (by decide) rfl
            rw [← hQe]
            exact W.zret (v := 0) hx hb hr nz_b0 (fun t ht hW => ⟨⟨_, (uc, uf), rfl, ⟨Or.inr ⟨rfl, hno⟩, hf1, hf2⟩, by rw [ht]; exact hP, va_K.moved hW.alike hK, hD⟩, hS.F ht⟩) hS.2.2 d_Fo_isKept_97
          · have n_89 : (sS f en ((s0 + 2 + ((tw f s0) * 32)) + 2) (tw f (s0 + 2 + ((tw f s0) * 32)))) = en := (nI_eq (a := (sS f en ((s0 + 2 + ((tw f s0) * 32)) + 2) (tw f (s0 + 2 + ((tw f s0) * 32))))) (b := en) (by omega) (by omega)).mp c_89
            refine lv_iconst (v := 1) hx hb d_Fo_isKept_92 (by decide) ?_
            refine lv_goto (tgt := 97) hx hb d_Fo_isKept_93 (by decide) ?_
            have hP := hP.sub (ws' := [(h, .inr (2, [.ref sk])), (sk, .inr (9, [.ref b_y, .ref fr, sk_firstDependency, .ref fcA, sk_dependencies, sk_hashes, sk_byHash, sk_leansOn, sk_leantBy, .ref ch, sk_lines, .int (nI P)])), (b_y, .inl (cB, 290000, .inl f)), (fcA, .inl (cI, 502, .inl uf)), (ch, .inr (1, [.ref cat, ch_patch, ch_file, ch_firstLine, ch_adds, ch_files])), (cat, .inl (cI, 38000, .inl uc)), (fr, .inl (cI, 502, .inl frf))]) [1, 2, 3, 4, 5, 6, 0] rfl
            have hD := hD.sub (ws' := [(h, .inr (2, [.ref sk])), (sk, .inr (9, [.ref b_y, .ref fr, sk_firstDependency, .ref fcA, sk_dependencies, sk_hashes, sk_byHash, sk_leansOn, sk_leantBy, .ref ch, sk_lines, .int (nI P)])), (b_y, .inl (cB, 290000, .inl f)), (fcA, .inl (cI, 502, .inl uf)), (ch, .inr (1, [.ref cat, ch_patch, ch_file, ch_firstLine, ch_adds, ch_files])), (cat, .inl (cI, 38000, .inl uc)), (fr, .inl (cI, 502, .inl frf))]) [1, 2, 3, 4, 5, 6, 0] (by decide) rfl
            rw [← hQe]
            exact W.zret (v := 1) hx hb hr nz_b1 (fun t ht hW => ⟨⟨_, (uc, uf), rfl, ⟨Or.inl ⟨rfl, ⟨n_38, by omega, hri, hz1, hz2, n_89⟩, hz3, hz4⟩, hf1, hf2⟩, by rw [ht]; exact hP, va_K.moved hW.alike hK, hD⟩, hS.F ht⟩) hS.2.2 d_Fo_isKept_97
        · have hP : va_P (dC, dI) classes [(fr, .inl (cI, 502, .inl frf)), (h, .inr (2, [.ref sk])), (sk, .inr (9, [.ref b_y, .ref fr, sk_firstDependency, .ref fcA, sk_dependencies, sk_hashes, sk_byHash, sk_leansOn, sk_leantBy, .ref ch, sk_lines, .int (nI P)])), (b_y, .inl (cB, 290000, .inl f)), (fcA, .inl (cI, 502, .inl uf)), (ch, .inr (1, [.ref cat, ch_patch, ch_file, ch_firstLine, ch_adds, ch_files])), (cat, .inl (cI, 38000, .inl uc))] H := hP
          have hD : va_D A [(fr, .inl (cI, 502, .inl frf)), (h, .inr (2, [.ref sk])), (sk, .inr (9, [.ref b_y, .ref fr, sk_firstDependency, .ref fcA, sk_dependencies, sk_hashes, sk_byHash, sk_leansOn, sk_leantBy, .ref ch, sk_lines, .int (nI P)])), (b_y, .inl (cB, 290000, .inl f)), (fcA, .inl (cI, 502, .inl uf)), (ch, .inr (1, [.ref cat, ch_patch, ch_file, ch_firstLine, ch_adds, ch_files])), (cat, .inl (cI, 38000, .inl uc))] := hD
          have hno : ¬ kept f s0 en := fun z => hbad ⟨z.2.2.2.1, z.2.2.2.2.1⟩
          refine lv_iload_n hx hb d_Fo_isKept_88 rfl (lv_at hl 2 rfl) ?_
          refine lv_icmp_ne (tgt := 96) hx hb d_Fo_isKept_89 (by decide) (fun _ => ?_) (fun c_89 => absurd c_89 (nI_nm1 (by omega)))
          refine lv_iconst (v := 0) hx hb d_Fo_isKept_96 (by decide) ?_
          have hP := hP.sub (ws' := [(h, .inr (2, [.ref sk])), (sk, .inr (9, [.ref b_y, .ref fr, sk_firstDependency, .ref fcA, sk_dependencies, sk_hashes, sk_byHash, sk_leansOn, sk_leantBy, .ref ch, sk_lines, .int (nI P)])), (b_y, .inl (cB, 290000, .inl f)), (fcA, .inl (cI, 502, .inl uf)), (ch, .inr (1, [.ref cat, ch_patch, ch_file, ch_firstLine, ch_adds, ch_files])), (cat, .inl (cI, 38000, .inl uc)), (fr, .inl (cI, 502, .inl frf))]) [1, 2, 3, 4, 5, 6, 0] rfl
          have hD := hD.sub (ws' := [(h, .inr (2, [.ref sk])), (sk, .inr (9, [.ref b_y, .ref fr, sk_firstDependency, .ref fcA, sk_dependencies, sk_hashes, sk_byHash, sk_leansOn, sk_leantBy, .ref ch, sk_lines, .int (nI P)])), (b_y, .inl (cB, 290000, .inl f)), (fcA, .inl (cI, 502, .inl uf)), (ch, .inr (1, [.ref cat, ch_patch, ch_file, ch_firstLine, ch_adds, ch_files])), (cat, .inl (cI, 38000, .inl uc)), (fr, .inl (cI, 502, .inl frf))]) [1, 2, 3, 4, 5, 6, 0] (by decide) rfl
          rw [← hQe]
          exact W.zret (v := 0) hx hb hr nz_b0 (fun t ht hW => ⟨⟨_, (uc, uf), rfl, ⟨Or.inr ⟨rfl, hno⟩, hf1, hf2⟩, by rw [ht]; exact hP, va_K.moved hW.alike hK, hD⟩, hS.F ht⟩) hS.2.2 d_Fo_isKept_97
      · have hP : va_P (dC, dI) classes [(fcA, .inl (cI, 502, .inl fcf)), (ch, .inr (1, [.ref cat, ch_patch, ch_file, ch_firstLine, ch_adds, ch_files])), (cat, .inl (cI, 38000, .inl ca)), (fr, .inl (cI, 502, .inl frf)), (h, .inr (2, [.ref sk])), (sk, .inr (9, [.ref b_y, .ref fr, sk_firstDependency, .ref fcA, sk_dependencies, sk_hashes, sk_byHash, sk_leansOn, sk_leantBy, .ref ch, sk_lines, .int (nI P)])), (b_y, .inl (cB, 290000, .inl f))] H := hP
        have hD : va_D A [(fcA, .inl (cI, 502, .inl fcf)), (ch, .inr (1, [.ref cat, ch_patch, ch_file, ch_firstLine, ch_adds, ch_files])), (cat, .inl (cI, 38000, .inl ca)), (fr, .inl (cI, 502, .inl frf)), (h, .inr (2, [.ref sk])), (sk, .inr (9, [.ref b_y, .ref fr, sk_firstDependency, .ref fcA, sk_dependencies, sk_hashes, sk_byHash, sk_leansOn, sk_leantBy, .ref ch, sk_lines, .int (nI P)])), (b_y, .inl (cB, 290000, .inl f))] := hD
        have hno : ¬ kept f s0 en := fun z => hri z.2.2.1
        refine lv_if_eq (tgt := 96) hx hb d_Fo_isKept_78 (by decide) (fun _ => ?_) (fun c_78 => absurd (by decide) c_78)
        refine lv_iconst (v := 0) hx hb d_Fo_isKept_96 (by decide) ?_
        have hP := hP.sub (ws' := [(h, .inr (2, [.ref sk])), (sk, .inr (9, [.ref b_y, .ref fr, sk_firstDependency, .ref fcA, sk_dependencies, sk_hashes, sk_byHash, sk_leansOn, sk_leantBy, .ref ch, sk_lines, .int (nI P)])), (b_y, .inl (cB, 290000, .inl f)), (fcA, .inl (cI, 502, .inl fcf)), (ch, .inr (1, [.ref cat, ch_patch, ch_file, ch_firstLine, ch_adds, ch_files])), (cat, .inl (cI, 38000, .inl ca)), (fr, .inl (cI, 502, .inl frf))]) [4, 5, 6, 0, 1, 2, 3] rfl
        have hD := hD.sub (ws' := [(h, .inr (2, [.ref sk])), (sk, .inr (9, [.ref b_y, .ref fr, sk_firstDependency, .ref fcA, sk_dependencies, sk_hashes, sk_byHash, sk_leansOn, sk_leantBy, .ref ch, sk_lines, .int (nI P)])), (b_y, .inl (cB, 290000, .inl f)), (fcA, .inl (cI, 502, .inl fcf)), (ch, .inr (1, [.ref cat, ch_patch, ch_file, ch_firstLine, ch_adds, ch_files])), (cat, .inl (cI, 38000, .inl ca)), (fr, .inl (cI, 502, .inl frf))]) [4, 5, 6, 0, 1, 2, 3] (by decide) rfl
        rw [← hQe]
        exact W.zret (v := 0) hx hb hr nz_b0 (fun t ht hW => ⟨⟨_, (ca, fcf), rfl, ⟨Or.inr ⟨rfl, hno⟩, fun _ _ => rfl, fun _ _ => rfl⟩, by rw [ht]; exact hP, va_K.moved hW.alike hK, hD⟩, hS.F ht⟩) hS.2.2 d_Fo_isKept_97
  · have n_38 : en < (s0 + 4) := Nat.lt_of_not_le (fun z => c_38 ((nI_leI (a := (s0 + 4)) (b := en) (by omega) (by omega)).mpr z))
    have hno : ¬ kept f s0 en := fun z => by have := z.1; omega
    refine lv_iconst (v := 0) hx hb d_Fo_isKept_41 (by decide) ?_
    rw [← hQe]
    exact W.zret (v := 0) hx hb hr nz_b0 (fun t ht hW => ⟨⟨_, (ca, fcf), rfl, ⟨Or.inr ⟨rfl, hno⟩, fun _ _ => rfl, fun _ _ => rfl⟩, by rw [ht]; exact hP, va_K.moved hW.alike hK, hD⟩, hS.F ht⟩) hS.2.2 d_Fo_isKept_42
end
