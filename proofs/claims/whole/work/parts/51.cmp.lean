/-! 51.cmp.lean.txt -/
def y_St_compareHashes : MethodName := ⟨"PatchStore$Stock", "compareHashes", "([BI[BI)I"⟩
abbrev c_St_compareHashes : Cond := (Jvm.Cond.code ({ cls := "PatchStore$Stock", name := "compareHashes", desc := "([BI[BI)I" } : Jvm.MethodName) prog_10_method_15_code (6 : Nat) (Option.some Jvm.ClassFile.FieldType.int))
abbrev ws_St_compareHashes : List Cond := c_St_compareHashes :: xg_1
theorem d_St_compareHashes_0 : decode prog_10_method_15_code 0 = .ok (.iconst 0, 1) := by decide +kernel
theorem d_St_compareHashes_1 : decode prog_10_method_15_code 1 = .ok (.istore 4, 2) := by decide +kernel
theorem d_St_compareHashes_3 : decode prog_10_method_15_code 3 = .ok (.iload 4, 2) := by decide +kernel
theorem d_St_compareHashes_5 : decode prog_10_method_15_code 5 = .ok (.bipush 32, 2) := by decide +kernel
theorem d_St_compareHashes_7 : decode prog_10_method_15_code 7 = .ok (.if_icmp .ge 40, 3) := by decide +kernel
theorem d_St_compareHashes_10 : decode prog_10_method_15_code 10 = .ok (.aload_n 0, 1) := by decide +kernel
theorem d_St_compareHashes_11 : decode prog_10_method_15_code 11 = .ok (.iload_n 1, 1) := by decide +kernel
theorem d_St_compareHashes_12 : decode prog_10_method_15_code 12 = .ok (.iload 4, 2) := by decide +kernel
theorem d_St_compareHashes_14 : decode prog_10_method_15_code 14 = .ok (.iadd, 1) := by decide +kernel
theorem d_St_compareHashes_15 : decode prog_10_method_15_code 15 = .ok (.baload, 1) := by decide +kernel
theorem d_St_compareHashes_16 : decode prog_10_method_15_code 16 = .ok (.sipush 255, 3) := by decide +kernel
theorem d_St_compareHashes_19 : decode prog_10_method_15_code 19 = .ok (.iand, 1) := by decide +kernel
theorem d_St_compareHashes_20 : decode prog_10_method_15_code 20 = .ok (.aload_n 2, 1) := by decide +kernel
theorem d_St_compareHashes_21 : decode prog_10_method_15_code 21 = .ok (.iload_n 3, 1) := by decide +kernel
theorem d_St_compareHashes_22 : decode prog_10_method_15_code 22 = .ok (.iload 4, 2) := by decide +kernel
theorem d_St_compareHashes_24 : decode prog_10_method_15_code 24 = .ok (.iadd, 1) := by decide +kernel
theorem d_St_compareHashes_25 : decode prog_10_method_15_code 25 = .ok (.baload, 1) := by decide +kernel
theorem d_St_compareHashes_26 : decode prog_10_method_15_code 26 = .ok (.sipush 255, 3) := by decide +kernel
theorem d_St_compareHashes_29 : decode prog_10_method_15_code 29 = .ok (.iand, 1) := by decide +kernel
theorem d_St_compareHashes_30 : decode prog_10_method_15_code 30 = .ok (.isub, 1) := by decide +kernel
theorem d_St_compareHashes_31 : decode prog_10_method_15_code 31 = .ok (.istore 5, 2) := by decide +kernel
theorem d_St_compareHashes_33 : decode prog_10_method_15_code 33 = .ok (.iload 5, 2) := by decide +kernel
theorem d_St_compareHashes_35 : decode prog_10_method_15_code 35 = .ok (.ifCond .eq 6, 3) := by decide +kernel
theorem d_St_compareHashes_38 : decode prog_10_method_15_code 38 = .ok (.iload 5, 2) := by decide +kernel
theorem d_St_compareHashes_40 : decode prog_10_method_15_code 40 = .ok (.ireturn, 1) := by decide +kernel
theorem d_St_compareHashes_41 : decode prog_10_method_15_code 41 = .ok (.iinc 4 1, 3) := by decide +kernel
theorem d_St_compareHashes_44 : decode prog_10_method_15_code 44 = .ok (.goto (-41), 3) := by decide +kernel
theorem d_St_compareHashes_47 : decode prog_10_method_15_code 47 = .ok (.iconst 0, 1) := by decide +kernel
theorem d_St_compareHashes_48 : decode prog_10_method_15_code 48 = .ok (.ireturn, 1) := by decide +kernel
/-- the first difference of n bytes -/
def bo (f g : Nat → Int32) : Nat → Nat → Nat → Int32
  | _, _, 0 => 0
  | i, j, n + 1 => if nI (b8 (f i)) - nI (b8 (g j)) = 0 then bo f g (i + 1) (j + 1) n else nI (b8 (f i)) - nI (b8 (g j))
theorem bo_s (f g : Nat → Int32) (i j n : Nat) : bo f g i j (n + 1) = if nI (b8 (f i)) - nI (b8 (g j)) = 0 then bo f g (i + 1) (j + 1) n else nI (b8 (f i)) - nI (b8 (g j)) := rfl
set_option maxHeartbeats 4000000 in
set_option maxRecDepth 100000 in
/-- hashes compared -/
theorem m_St_cmp (l : Launch) (dC : Nat → ClassId) (dI : Nat → Nat → Nat) (cI cB cL cZ cR : ClassId) (p1 p2 : Nat) (N1 N2 : Nat) (f g : Nat → Int32) (i j : Nat) (sz : Nat) (hN1 : N1 < 2 ^ 31) (hN2 : N2 < 2 ^ 31) (h1 : i + 32 ≤ N1) (h2 : j + 32 ≤ N2) : Met l y_St_compareHashes ws_St_compareHashes ({ frames := 0, cells := 0, slots := 0, locals := 0 }) (xw_Pc dC dI [(cI, .int), (cB, .byte), (cL, .long), (cZ, .boolean), (cR, .object "PatchStore$Repository")] [.ref p1, .int (nI i), .ref p2, .int (nI j)] [(p1, .inl (cB, N1, .inl f)), (p2, .inl (cB, N2, .inl g))] sz) (va_Qi (fun (r : Int32) (_ : Unit) => r = bo f g i j 32) (fun _ t => xw_B dC dI [(cI, .int), (cB, .byte), (cL, .long), (cZ, .boolean), (cR, .object "PatchStore$Repository")] (va_A [(p1, .inl (cB, N1, .inl f)), (p2, .inl (cB, N2, .inl g))] sz) [(p1, .inl (cB, N1, .inl f)), (p2, .inl (cB, N2, .inl g))] t) (va_A [(p1, .inl (cB, N1, .inl f)), (p2, .inl (cB, N2, .inl g))] sz)) 0 0 (va_A [(p1, .inl (cB, N1, .inl f)), (p2, .inl (cB, N2, .inl g))] sz) := by
  refine Met.ofW (cc := prog_10_method_15_code) (maxL := 6) (ret := (Option.some Jvm.ClassFile.FieldType.int)) (by decide) rfl ?_
  intro p e s m args below meth c s₁ B hml hv
  obtain ⟨rfl, hsz, hP, hK, hD0⟩ := hv
  have hx := B.exec
  have hb := B.bytes
  have hr := B.returns
  have hts0 := atoms_spec (ws := ws_St_compareHashes) B.pre
  have hts : ∀ w ∈ xg_1, w.before _ s = true := fun w h => hts0 w (List.mem_cons_of_mem _ h)
  have hown : s.vm.findClass "PatchStore$Stock" = some m.cls := findClass_of_methodNamed B.named
  have hlocks := B.notSynchronized
  subst hsz
  have hD := hD0.self (sz := s.heap.size)
  generalize hAe : va_A [(p1, .inl (cB, N1, .inl f)), (p2, .inl (cB, N2, .inl g))] s.heap.size = A at hD ⊢
  have hA : ∀ q : Nat, s.heap.size ≤ q → A q := fun q h => by rw [← hAe]; exact Or.inr h
  have hS : va_S A s.heap s.heap [] := va_S.rf
  have hl := lv_entry ([.ref p1, .int (nI i), .ref p2, .int (nI j)]) (n := 6) (Nat.le_of_ble_eq_true rfl)
  rw [lg_entry_eq]
  generalize (lg_sl ([.ref p1, .int (nI i), .ref p2, .int (nI j)]) ++ List.replicate (6 - (lg_sl ([.ref p1, .int (nI i), .ref p2, .int (nI j)])).length) Slot.unset).toArray = ls at hl ⊢
  have hl : lv_has ls 6 [(0, .ref p1), (1, .int (nI i)), (2, .ref p2), (3, .int (nI j))] := hl
  generalize hQe : MQ _ _ _ _ _ _ _ = Q
  refine lv_iconst (v := 0) hx hb d_St_compareHashes_0 (by decide) ?_
  refine lv_istore (lv' := [(4, .int 0), (0, .ref p1), (1, .int (nI i)), (2, .ref p2), (3, .int (nI j))]) hx hb d_St_compareHashes_1 hl (by decide) rfl (fun ls hl => ?_)
  have loop_3 : ∀ (n : Nat) (k : Nat) (H : Heap) (locs : List Loc) (ls : Array Slot), 32 - k < n → (k ≤ 32) → (bo f g (i + k) (j + k) (32 - k) = bo f g i j 32) → va_P (dC, dI) classes [(p1, .inl (cB, N1, .inl f)), (p2, .inl (cB, N2, .inl g))] H → va_D A [(p1, .inl (cB, N1, .inl f)), (p2, .inl (cB, N2, .inl g))] → va_S A s.heap H locs → lv_has ls 6 [(0, .ref p1), (1, .int (nI i)), (2, .ref p2), (3, .int (nI j)), (4, .int (nI k))] → W p l e (headSpec ws_St_compareHashes ({ frames := 0, cells := 0, slots := 0, locals := 0 })).room s m ([.ref p1, .int (nI i), .ref p2, .int (nI j)] : List Value).toArray below meth c H locs 0 0 Q (F0 m 3 ls []) := by
    intro n
    induction n with
    | zero => intro k H locs ls hm; exact absurd hm (Nat.not_lt_zero _)
    | succ n ih_3 =>
      intro k H locs ls hm hk hi hP hD hS hl
      refine lv_iload hx hb d_St_compareHashes_3 (lv_at hl 4 rfl) ?_
      refine lv_bipush (v := 32) hx hb d_St_compareHashes_5 (by decide) ?_
      refine lv_icmp_ge (tgt := 47) hx hb d_St_compareHashes_7 (by decide) (fun c_7 => ?_) (fun c_7 => ?_)
      · have hk9 : k = 32 := by have := (nI_leI (a := 32) (b := k) (by omega) (by omega)).mp c_7; omega
        refine lv_iconst (v := 0) hx hb d_St_compareHashes_47 (by decide) ?_
        rw [← hQe]
        exact W.iret (v := 0) hx hb hr (fun t ht hW => ⟨⟨_, (), rfl, by rw [← hi, hk9]; rfl, by rw [ht]; exact hP, va_K.moved hW.alike hK, hD⟩, hS.F ht⟩) hS.2.2 d_St_compareHashes_48
      · have hk9 : k < 32 := by rcases Nat.lt_or_ge k 32 with z | z; exact z; exact absurd (nI_le (a := 32) z (by omega)) c_7
        refine lv_aload_n hx hb d_St_compareHashes_10 rfl (lv_at hl 0 rfl) ?_
        refine lv_iload_n hx hb d_St_compareHashes_11 rfl (lv_at hl 1 rfl) ?_
        refine lv_iload hx hb d_St_compareHashes_12 (lv_at hl 4 rfl) ?_
        refine lv_iadd hx hb d_St_compareHashes_14 ?_
        refine lv_topi (fun x_1 ex_1 => ?_)
        obtain rfl : x_1 = nI (i + k) := by rw [ex_1]; first | done | (exact nI_add i k)
        refine va_bald hx hb hK hP 0 1 rfl rfl (vp_in_nI (by omega) (by omega)) d_St_compareHashes_15 ?_
        rw [show (nI (i + k)).toNatClampNeg = (i + k) from nI_clamp (by omega)]
        refine lv_sipush (v := 255) hx hb d_St_compareHashes_16 (by decide) ?_
        refine lv_iand hx hb d_St_compareHashes_19 ?_
        refine lv_topi (fun x_2 ex_2 => ?_)
        obtain rfl : x_2 = nI (b8 (f (i + k))) := by rw [ex_2]; first | done | (exact b8_eq _)
        refine lv_aload_n hx hb d_St_compareHashes_20 rfl (lv_at hl 2 rfl) ?_
        refine lv_iload_n hx hb d_St_compareHashes_21 rfl (lv_at hl 3 rfl) ?_
        refine lv_iload hx hb d_St_compareHashes_22 (lv_at hl 4 rfl) ?_
        refine lv_iadd hx hb d_St_compareHashes_24 ?_
        refine lv_topi (fun x_3 ex_3 => ?_)
        obtain rfl : x_3 = nI (j + k) := by rw [ex_3]; first | done | (exact nI_add j k)
        refine va_bald hx hb hK hP 1 1 rfl rfl (vp_in_nI (by omega) (by omega)) d_St_compareHashes_25 ?_
        rw [show (nI (j + k)).toNatClampNeg = (j + k) from nI_clamp (by omega)]
        refine lv_sipush (v := 255) hx hb d_St_compareHashes_26 (by decide) ?_
        refine lv_iand hx hb d_St_compareHashes_29 ?_
        refine lv_topi (fun x_4 ex_4 => ?_)
        obtain rfl : x_4 = nI (b8 (g (j + k))) := by rw [ex_4]; first | done | (exact b8_eq _)
        refine lv_isub hx hb d_St_compareHashes_30 ?_
        refine lv_istore (lv' := [(5, .int ((nI (b8 (f (i + k)))) - (nI (b8 (g (j + k)))))), (0, .ref p1), (1, .int (nI i)), (2, .ref p2), (3, .int (nI j)), (4, .int (nI k))]) hx hb d_St_compareHashes_31 hl (by decide) rfl (fun ls hl => ?_)
        refine lv_iload hx hb d_St_compareHashes_33 (lv_at hl 0 rfl) ?_
        refine lv_if_eq (tgt := 41) hx hb d_St_compareHashes_35 (by decide) (fun c_35 => ?_) (fun c_35 => ?_)
        · refine lv_iinc (v := nI (k + 1)) (lv' := [(4, .int (nI (k + 1))), (5, .int ((nI (b8 (f (i + k)))) - (nI (b8 (g (j + k)))))), (0, .ref p1), (1, .int (nI i)), (2, .ref p2), (3, .int (nI j))]) hx hb d_St_compareHashes_41 hl (k := 5) rfl (by exact nI_1 k) (by decide) rfl (fun ls hl => ?_)
          refine lv_goto (tgt := 3) hx hb d_St_compareHashes_44 (by decide) ?_
          exact ih_3 (k + 1) _ _ _ (by omega) (by omega) (by rw [← hi, show 32 - k = (32 - (k + 1)) + 1 by omega, bo_s, if_pos c_35]; rfl) hP hD hS (lv_sub hl [2, 3, 4, 5, 0] rfl)
        · refine lv_iload hx hb d_St_compareHashes_38 (lv_at hl 0 rfl) ?_
          rw [← hQe]
          exact W.iret (v := (nI (b8 (f (i + k)))) - (nI (b8 (g (j + k))))) hx hb hr (fun t ht hW => ⟨⟨_, (), rfl, by rw [← hi, show 32 - k = (31 - k) + 1 by omega, bo_s, if_neg c_35], by rw [ht]; exact hP, va_K.moved hW.alike hK, hD⟩, hS.F ht⟩) hS.2.2 d_St_compareHashes_40
  exact loop_3 _ 0 _ _ _ (Nat.lt_succ_self _) (Nat.zero_le _) (rfl) hP hD hS (lv_sub hl [1, 2, 3, 4, 0] rfl)
set_option maxHeartbeats 4000000 in
set_option maxRecDepth 100000 in
/-- hashes compared -/
theorem m_St_cmps (l : Launch) (dC : Nat → ClassId) (dI : Nat → Nat → Nat) (cI cB cL cZ cR : ClassId) (p1 : Nat) (N1 : Nat) (f : Nat → Int32) (i j : Nat) (sz : Nat) (hN1 : N1 < 2 ^ 31) (h1 : i + 32 ≤ N1) (h2 : j + 32 ≤ N1) : Met l y_St_compareHashes ws_St_compareHashes ({ frames := 0, cells := 0, slots := 0, locals := 0 }) (xw_Pc dC dI [(cI, .int), (cB, .byte), (cL, .long), (cZ, .boolean), (cR, .object "PatchStore$Repository")] [.ref p1, .int (nI i), .ref p1, .int (nI j)] [(p1, .inl (cB, N1, .inl f))] sz) (va_Qi (fun (r : Int32) (_ : Unit) => r = bo f f i j 32) (fun _ t => xw_B dC dI [(cI, .int), (cB, .byte), (cL, .long), (cZ, .boolean), (cR, .object "PatchStore$Repository")] (va_A [(p1, .inl (cB, N1, .inl f))] sz) [(p1, .inl (cB, N1, .inl f))] t) (va_A [(p1, .inl (cB, N1, .inl f))] sz)) 0 0 (va_A [(p1, .inl (cB, N1, .inl f))] sz) := by
  refine Met.ofW (cc := prog_10_method_15_code) (maxL := 6) (ret := (Option.some Jvm.ClassFile.FieldType.int)) (by decide) rfl ?_
  intro p e s m args below meth c s₁ B hml hv
  obtain ⟨rfl, hsz, hP, hK, hD0⟩ := hv
  have hx := B.exec
  have hb := B.bytes
  have hr := B.returns
  have hts0 := atoms_spec (ws := ws_St_compareHashes) B.pre
  have hts : ∀ w ∈ xg_1, w.before _ s = true := fun w h => hts0 w (List.mem_cons_of_mem _ h)
  have hown : s.vm.findClass "PatchStore$Stock" = some m.cls := findClass_of_methodNamed B.named
  have hlocks := B.notSynchronized
  subst hsz
  have hD := hD0.self (sz := s.heap.size)
  generalize hAe : va_A [(p1, .inl (cB, N1, .inl f))] s.heap.size = A at hD ⊢
  have hA : ∀ q : Nat, s.heap.size ≤ q → A q := fun q h => by rw [← hAe]; exact Or.inr h
  have hS : va_S A s.heap s.heap [] := va_S.rf
  have hl := lv_entry ([.ref p1, .int (nI i), .ref p1, .int (nI j)]) (n := 6) (Nat.le_of_ble_eq_true rfl)
  rw [lg_entry_eq]
  generalize (lg_sl ([.ref p1, .int (nI i), .ref p1, .int (nI j)]) ++ List.replicate (6 - (lg_sl ([.ref p1, .int (nI i), .ref p1, .int (nI j)])).length) Slot.unset).toArray = ls at hl ⊢
  have hl : lv_has ls 6 [(0, .ref p1), (1, .int (nI i)), (2, .ref p1), (3, .int (nI j))] := hl
  generalize hQe : MQ _ _ _ _ _ _ _ = Q
  refine lv_iconst (v := 0) hx hb d_St_compareHashes_0 (by decide) ?_
  refine lv_istore (lv' := [(4, .int 0), (0, .ref p1), (1, .int (nI i)), (2, .ref p1), (3, .int (nI j))]) hx hb d_St_compareHashes_1 hl (by decide) rfl (fun ls hl => ?_)
  have loop_3 : ∀ (n : Nat) (k : Nat) (H : Heap) (locs : List Loc) (ls : Array Slot), 32 - k < n → (k ≤ 32) → (bo f f (i + k) (j + k) (32 - k) = bo f f i j 32) → va_P (dC, dI) classes [(p1, .inl (cB, N1, .inl f))] H → va_D A [(p1, .inl (cB, N1, .inl f))] → va_S A s.heap H locs → lv_has ls 6 [(0, .ref p1), (1, .int (nI i)), (2, .ref p1), (3, .int (nI j)), (4, .int (nI k))] → W p l e (headSpec ws_St_compareHashes ({ frames := 0, cells := 0, slots := 0, locals := 0 })).room s m ([.ref p1, .int (nI i), .ref p1, .int (nI j)] : List Value).toArray below meth c H locs 0 0 Q (F0 m 3 ls []) := by
    intro n
    induction n with
    | zero => intro k H locs ls hm; exact absurd hm (Nat.not_lt_zero _)
    | succ n ih_3 =>
      intro k H locs ls hm hk hi hP hD hS hl
      refine lv_iload hx hb d_St_compareHashes_3 (lv_at hl 4 rfl) ?_
      refine lv_bipush (v := 32) hx hb d_St_compareHashes_5 (by decide) ?_
      refine lv_icmp_ge (tgt := 47) hx hb d_St_compareHashes_7 (by decide) (fun c_7 => ?_) (fun c_7 => ?_)
      · have hk9 : k = 32 := by have := (nI_leI (a := 32) (b := k) (by omega) (by omega)).mp c_7; omega
        refine lv_iconst (v := 0) hx hb d_St_compareHashes_47 (by decide) ?_
        rw [← hQe]
        exact W.iret (v := 0) hx hb hr (fun t ht hW => ⟨⟨_, (), rfl, by rw [← hi, hk9]; rfl, by rw [ht]; exact hP, va_K.moved hW.alike hK, hD⟩, hS.F ht⟩) hS.2.2 d_St_compareHashes_48
      · have hk9 : k < 32 := by rcases Nat.lt_or_ge k 32 with z | z; exact z; exact absurd (nI_le (a := 32) z (by omega)) c_7
        refine lv_aload_n hx hb d_St_compareHashes_10 rfl (lv_at hl 0 rfl) ?_
        refine lv_iload_n hx hb d_St_compareHashes_11 rfl (lv_at hl 1 rfl) ?_
        refine lv_iload hx hb d_St_compareHashes_12 (lv_at hl 4 rfl) ?_
        refine lv_iadd hx hb d_St_compareHashes_14 ?_
        refine lv_topi (fun x_1 ex_1 => ?_)
        obtain rfl : x_1 = nI (i + k) := by rw [ex_1]; first | done | (exact nI_add i k)
        refine va_bald hx hb hK hP 0 1 rfl rfl (vp_in_nI (by omega) (by omega)) d_St_compareHashes_15 ?_
        rw [show (nI (i + k)).toNatClampNeg = (i + k) from nI_clamp (by omega)]
        refine lv_sipush (v := 255) hx hb d_St_compareHashes_16 (by decide) ?_
        refine lv_iand hx hb d_St_compareHashes_19 ?_
        refine lv_topi (fun x_2 ex_2 => ?_)
        obtain rfl : x_2 = nI (b8 (f (i + k))) := by rw [ex_2]; first | done | (exact b8_eq _)
        refine lv_aload_n hx hb d_St_compareHashes_20 rfl (lv_at hl 2 rfl) ?_
        refine lv_iload_n hx hb d_St_compareHashes_21 rfl (lv_at hl 3 rfl) ?_
        refine lv_iload hx hb d_St_compareHashes_22 (lv_at hl 4 rfl) ?_
        refine lv_iadd hx hb d_St_compareHashes_24 ?_
        refine lv_topi (fun x_3 ex_3 => ?_)
        obtain rfl : x_3 = nI (j + k) := by rw [ex_3]; first | done | (exact nI_add j k)
        refine va_bald hx hb hK hP 0 1 rfl rfl (vp_in_nI (by omega) (by omega)) d_St_compareHashes_25 ?_
        rw [show (nI (j + k)).toNatClampNeg = (j + k) from nI_clamp (by omega)]
        refine lv_sipush (v := 255) hx hb d_St_compareHashes_26 (by decide) ?_
        refine lv_iand hx hb d_St_compareHashes_29 ?_
        refine lv_topi (fun x_4 ex_4 => ?_)
        obtain rfl : x_4 = nI (b8 (f (j + k))) := by rw [ex_4]; first | done | (exact b8_eq _)
        refine lv_isub hx hb d_St_compareHashes_30 ?_
        refine lv_istore (lv' := [(5, .int ((nI (b8 (f (i + k)))) - (nI (b8 (f (j + k)))))), (0, .ref p1), (1, .int (nI i)), (2, .ref p1), (3, .int (nI j)), (4, .int (nI k))]) hx hb d_St_compareHashes_31 hl (by decide) rfl (fun ls hl => ?_)
        refine lv_iload hx hb d_St_compareHashes_33 (lv_at hl 0 rfl) ?_
        refine lv_if_eq (tgt := 41) hx hb d_St_compareHashes_35 (by decide) (fun c_35 => ?_) (fun c_35 => ?_)
        · refine lv_iinc (v := nI (k + 1)) (lv' := [(4, .int (nI (k + 1))), (5, .int ((nI (b8 (f (i + k)))) - (nI (b8 (f (j + k)))))), (0, .ref p1), (1, .int (nI i)), (2, .ref p1), (3, .int (nI j))]) hx hb d_St_compareHashes_41 hl (k := 5) rfl (by exact nI_1 k) (by decide) rfl (fun ls hl => ?_)
          refine lv_goto (tgt := 3) hx hb d_St_compareHashes_44 (by decide) ?_
          exact ih_3 (k + 1) _ _ _ (by omega) (by omega) (by rw [← hi, show 32 - k = (32 - (k + 1)) + 1 by omega, bo_s, if_pos c_35]; rfl) hP hD hS (lv_sub hl [2, 3, 4, 5, 0] rfl)
        · refine lv_iload hx hb d_St_compareHashes_38 (lv_at hl 0 rfl) ?_
          rw [← hQe]
          exact W.iret (v := (nI (b8 (f (i + k)))) - (nI (b8 (f (j + k))))) hx hb hr (fun t ht hW => ⟨⟨_, (), rfl, by rw [← hi, show 32 - k = (31 - k) + 1 by omega, bo_s, if_neg c_35], by rw [ht]; exact hP, va_K.moved hW.alike hK, hD⟩, hS.F ht⟩) hS.2.2 d_St_compareHashes_40
  exact loop_3 _ 0 _ _ _ (Nat.lt_succ_self _) (Nat.zero_le _) (rfl) hP hD hS (lv_sub hl [1, 2, 3, 4, 0] rfl)
