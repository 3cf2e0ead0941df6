/-! 11.small.lean.txt -/
theorem gw_558 : (Jvm.Cond.fieldLink "PatchStore" (141 : Nat) "PatchStore" "lastFault" "I") ∈ xg_1 := xg_s3 78 rfl rfl
def y_PS_fault : MethodName := ⟨"PatchStore", "fault", "()I"⟩
abbrev c_PS_fault : Cond := (Jvm.Cond.code ({ cls := "PatchStore", name := "fault", desc := "()I" } : Jvm.MethodName) prog_1_method_8_code (1 : Nat) (Option.some Jvm.ClassFile.FieldType.int))
abbrev ws_PS_fault : List Cond := c_PS_fault :: xg_1
theorem d_PS_fault_0 : decode prog_1_method_8_code 0 = .ok (.aload_n 0, 1) := by decide +kernel
theorem d_PS_fault_1 : decode prog_1_method_8_code 1 = .ok (.getfield 141, 3) := by decide +kernel
theorem d_PS_fault_4 : decode prog_1_method_8_code 4 = .ok (.ireturn, 1) := by decide +kernel
def y_PS_end : MethodName := ⟨"PatchStore", "end", "(I)I"⟩
abbrev c_PS_end : Cond := (Jvm.Cond.code ({ cls := "PatchStore", name := "end", desc := "(I)I" } : Jvm.MethodName) prog_1_method_3_code (2 : Nat) (Option.some Jvm.ClassFile.FieldType.int))
abbrev ws_PS_end : List Cond := c_PS_end :: xg_1
theorem d_PS_end_0 : decode prog_1_method_3_code 0 = .ok (.iload_n 1, 1) := by decide +kernel
theorem d_PS_end_1 : decode prog_1_method_3_code 1 = .ok (.ifCond .lt 11, 3) := by decide +kernel
theorem d_PS_end_4 : decode prog_1_method_3_code 4 = .ok (.iload_n 1, 1) := by decide +kernel
theorem d_PS_end_5 : decode prog_1_method_3_code 5 = .ok (.aload_n 0, 1) := by decide +kernel
theorem d_PS_end_6 : decode prog_1_method_3_code 6 = .ok (.getfield 76, 3) := by decide +kernel
theorem d_PS_end_9 : decode prog_1_method_3_code 9 = .ok (.if_icmp .le 11, 3) := by decide +kernel
theorem d_PS_end_12 : decode prog_1_method_3_code 12 = .ok (.new 87, 3) := by decide +kernel
theorem d_PS_end_15 : decode prog_1_method_3_code 15 = .ok (.dup, 1) := by decide +kernel
theorem d_PS_end_16 : decode prog_1_method_3_code 16 = .ok (.invokespecial 89, 3) := by decide +kernel
theorem d_PS_end_19 : decode prog_1_method_3_code 19 = .ok (.athrow, 1) := by decide +kernel
theorem d_PS_end_20 : decode prog_1_method_3_code 20 = .ok (.aload_n 0, 1) := by decide +kernel
theorem d_PS_end_21 : decode prog_1_method_3_code 21 = .ok (.iload_n 1, 1) := by decide +kernel
theorem d_PS_end_22 : decode prog_1_method_3_code 22 = .ok (.putfield 76, 3) := by decide +kernel
theorem d_PS_end_25 : decode prog_1_method_3_code 25 = .ok (.iload_n 1, 1) := by decide +kernel
theorem d_PS_end_26 : decode prog_1_method_3_code 26 = .ok (.ireturn, 1) := by decide +kernel
def ps_end_ok (x : Int32) (L : Nat) : Prop := ∃ n : Nat, n ≤ L ∧ x = nI n
theorem ps_end_bad (x : Int32) (L : Nat) (hL : L < 2 ^ 31) (h : x < 0 ∨ ¬ x ≤ nI L) : ¬ ps_end_ok x L := by
  rintro ⟨n, hn, rfl⟩
  rcases h with h | h
  · exact nI_pos (by omega) h
  · exact h (nI_le hn hL)
set_option maxHeartbeats 4000000 in
set_option maxRecDepth 100000 in
/-- fault -/
theorem m_PS_fault (l : Launch) (dC : Nat → ClassId) (dI : Nat → Nat → Nat) (cI cB cL cZ cR : ClassId) (h tp : Nat) (v1 v2 v3 v4 v5 v6 v7 v8 : Value) (L : Nat) (flt : Int32) (f : Nat → Int32) (sz : Nat) : Met l y_PS_fault ws_PS_fault ({ frames := 0, cells := 0, slots := 0, locals := 0 }) (xw_Pc dC dI [(cI, .int), (cB, .byte), (cL, .long), (cZ, .boolean), (cR, .object "PatchStore$Repository")] [.ref h] [(h, .inr (0, [.ref tp, v1, v2, v3, v4, v5, v6, v7, v8, .int (nI L), .int flt]))] sz) (va_Qi (fun (r : Int32) (_ : Unit) => r = flt) (fun _ t => xw_B dC dI [(cI, .int), (cB, .byte), (cL, .long), (cZ, .boolean), (cR, .object "PatchStore$Repository")] (va_A [(h, .inr (0, [.ref tp, v1, v2, v3, v4, v5, v6, v7, v8, .int (nI L), .int flt]))] sz) [(h, .inr (0, [.ref tp, v1, v2, v3, v4, v5, v6, v7, v8, .int (nI L), .int flt]))] t) (va_A [(h, .inr (0, [.ref tp, v1, v2, v3, v4, v5, v6, v7, v8, .int (nI L), .int flt]))] sz)) 0 0 (va_A [(h, .inr (0, [.ref tp, v1, v2, v3, v4, v5, v6, v7, v8, .int (nI L), .int flt]))] sz) := by
  refine Met.ofW (cc := prog_1_method_8_code) (maxL := 1) (ret := (Option.some Jvm.ClassFile.FieldType.int)) (by decide) rfl ?_
  intro p e s m args below meth c s₁ B hml hv
  obtain ⟨rfl, hsz, hP, hK, hD0⟩ := hv
  have hx := B.exec
  have hb := B.bytes
  have hr := B.returns
  have hts0 := atoms_spec (ws := ws_PS_fault) B.pre
  have hts : ∀ w ∈ xg_1, w.before _ s = true := fun w h => hts0 w (List.mem_cons_of_mem _ h)
  have hown : s.vm.findClass "PatchStore" = some m.cls := findClass_of_methodNamed B.named
  have hlocks := B.notSynchronized
  subst hsz
  have hD := hD0.self (sz := s.heap.size)
  generalize hAe : va_A [(h, .inr (0, [.ref tp, v1, v2, v3, v4, v5, v6, v7, v8, .int (nI L), .int flt]))] s.heap.size = A at hD ⊢
  have hA : ∀ q : Nat, s.heap.size ≤ q → A q := fun q h => by rw [← hAe]; exact Or.inr h
  have hS : va_S A s.heap s.heap [] := va_S.rf
  have hl := lv_entry ([.ref h]) (n := 1) (Nat.le_of_ble_eq_true rfl)
  rw [lg_entry_eq]
  generalize (lg_sl ([.ref h]) ++ List.replicate (1 - (lg_sl ([.ref h])).length) Slot.unset).toArray = ls at hl ⊢
  have hl : lv_has ls 1 [(0, .ref h)] := hl
  refine lv_aload_n hx hb d_PS_fault_0 rfl (lv_at hl 0 rfl) ?_
  refine va_get (D := (dC, dI)) (ci := 0) (v := .int flt) (C := R_PS) (T := F_PS) (N := 11) hx hb hts i_PS hown hK hP 0 rfl rfl 10 (by decide) (hts _ gw_558) (fun _ h9 => h9) rfl d_PS_fault_1 ?_
  exact W.iret (v := flt) hx hb hr (fun t ht hW => ⟨⟨_, (), rfl, rfl, by rw [ht]; exact hP, va_K.moved hW.alike hK, hD⟩, hS.F ht⟩) hS.2.2 d_PS_fault_4
set_option maxHeartbeats 4000000 in
set_option maxRecDepth 100000 in
/-- end -/
theorem m_PS_end (l : Launch) (dC : Nat → ClassId) (dI : Nat → Nat → Nat) (cI cB cL cZ cR : ClassId) (hlt : xl_T l) (h tp : Nat) (v1 v2 v3 v4 v5 v6 v7 v8 : Value) (L : Nat) (flt : Int32) (f : Nat → Int32) (p0 : Int32) (sz : Nat) (hL : L ≤ 65536) : xc_Met l y_PS_end ws_PS_end ({ frames := 8, cells := 1, slots := 6, locals := 200 }) (xw_Px dC dI [(cI, .int), (cB, .byte), (cL, .long), (cZ, .boolean), (cR, .object "PatchStore$Repository")] [.ref h, .int p0] [(h, .inr (0, [.ref tp, v1, v2, v3, v4, v5, v6, v7, v8, .int (nI L), .int flt]))] sz) (xc_Q (S := Nat) (fun v u => u ≤ L ∧ v = some (.int (nI u)) ∧ p0 = nI u) (fun C u => ¬ ps_end_ok p0 L ∧ C = "java/lang/IllegalArgumentException" ∧ u = L) (fun u t => xw_B dC dI [(cI, .int), (cB, .byte), (cL, .long), (cZ, .boolean), (cR, .object "PatchStore$Repository")] (va_A [(h, .inr (0, [.ref tp, v1, v2, v3, v4, v5, v6, v7, v8, .int (nI L), .int flt]))] sz) [(h, .inr (0, [.ref tp, v1, v2, v3, v4, v5, v6, v7, v8, .int (nI u), .int flt]))] t) (va_A [(h, .inr (0, [.ref tp, v1, v2, v3, v4, v5, v6, v7, v8, .int (nI L), .int flt]))] sz)) 1 6 (va_A [(h, .inr (0, [.ref tp, v1, v2, v3, v4, v5, v6, v7, v8, .int (nI L), .int flt]))] sz) := by
  refine xc_ofW (cc := prog_1_method_3_code) (maxL := 2) (ret := (Option.some Jvm.ClassFile.FieldType.int)) (by decide) rfl ?_
  intro p e s m args below meth c s₁ B hml hno hv
  obtain ⟨rfl, hsz, hP, hK, hD0, hN, hTh⟩ := hv
  have htr : e.platform.stackTraces = false := hlt e B.admits
  have hx := B.exec
  have hb := B.bytes
  have hr := B.returns
  have hts0 := atoms_spec (ws := ws_PS_end) B.pre
  have hts : ∀ w ∈ xg_1, w.before _ s = true := fun w h => hts0 w (List.mem_cons_of_mem _ h)
  have hown : s.vm.findClass "PatchStore" = some m.cls := findClass_of_methodNamed B.named
  have hlocks := B.notSynchronized
  subst hsz
  have hD := hD0.self (sz := s.heap.size)
  generalize hAe : va_A [(h, .inr (0, [.ref tp, v1, v2, v3, v4, v5, v6, v7, v8, .int (nI L), .int flt]))] s.heap.size = A at hD hTh ⊢
  have hA : ∀ q : Nat, s.heap.size ≤ q → A q := fun q h => by rw [← hAe]; exact Or.inr h
  have hS : va_S A s.heap s.heap [] := va_S.rf
  have hl := lv_entry ([.ref h, .int p0]) (n := 2) (Nat.le_of_ble_eq_true rfl)
  rw [lg_entry_eq]
  generalize (lg_sl ([.ref h, .int p0]) ++ List.replicate (2 - (lg_sl ([.ref h, .int p0])).length) Slot.unset).toArray = ls at hl ⊢
  have hl : lv_has ls 2 [(0, .ref h), (1, .int p0)] := hl
  refine lv_iload_n hx hb d_PS_end_0 rfl (lv_at hl 1 rfl) ?_
  refine lv_if_lt (tgt := 12) hx hb d_PS_end_1 (by decide) (fun c_1 => ?_) (fun c_1 => ?_)
  · have hc : p0 < 0 := c_1
    refine xc_thrownew (A := A) (own := "PatchStore") (C := "java/lang/IllegalArgumentException") (names := ["java/lang/RuntimeException", "java/lang/Exception"]) (i1 := 87) (i2 := 89) hx hb hml hl.1 hown hlocks hno htr (by decide +kernel) (by decide +kernel) (tw_PS_87 hts hN) (tr_PS_87) (ti_PS_87) (hTh.1.kept (fun a h1 h2 => hS.2.1 a h1 h2)) d_PS_end_12 d_PS_end_15 d_PS_end_16 d_PS_end_19 (Nat.le_of_ble_eq_true rfl) (Nat.le_of_ble_eq_true rfl) (Nat.le_of_ble_eq_true rfl) (Nat.le_of_ble_eq_true rfl) (fun x9 t9 H9 e1 e2 e3 hW9 hex => ⟨Or.inr ⟨x9, "java/lang/IllegalArgumentException", L, rfl, ⟨ps_end_bad p0 L (by omega) (by first | exact Or.inl hc | exact Or.inr hc), rfl, rfl⟩, hex, (by rw [e1]; exact hP.kept (fun k q hq => e3 q.1 ((hP k q hq).lt))), va_K.moved hW9.alike hK, hD⟩, (by rw [e1]; exact Nat.le_trans hS.1 e2), fun q h1 h2 => by rw [e1]; exact (e3 q (Nat.lt_of_lt_of_le h1 hS.1)).trans (hS.2.1 q h1 h2)⟩) hS.2.2
  · refine lv_iload_n hx hb d_PS_end_4 rfl (lv_at hl 1 rfl) ?_
    refine lv_aload_n hx hb d_PS_end_5 rfl (lv_at hl 0 rfl) ?_
    refine va_get (D := (dC, dI)) (ci := 0) (v := .int (nI L)) (C := R_PS) (T := F_PS) (N := 11) hx hb hts i_PS hown hK hP 0 rfl rfl 9 (by decide) (hts _ gw_557) (fun _ h9 => h9) rfl d_PS_end_6 ?_
    refine lv_icmp_le (tgt := 20) hx hb d_PS_end_9 (by decide) (fun c_9 => ?_) (fun c_9 => ?_)
    · obtain ⟨n0, hn0, hp0⟩ := nI_of c_1
      have hc : n0 ≤ L := (nI_leI hn0 (by omega)).mp (hp0 ▸ c_9)
      refine lv_aload_n hx hb d_PS_end_20 rfl (lv_at hl 0 rfl) ?_
      refine lv_iload_n hx hb d_PS_end_21 rfl (lv_at hl 1 rfl) ?_
      refine va_put (D := (dC, dI)) (ci := 0) (v := .int p0) (ty := .int) (C := R_PS) (T := F_PS) (N := 11) hx hb hts i_PS t_PS t_PS_ok n_PS hown hK hP hD hS 0 rfl rfl 9 (by decide) (hts _ gw_557) (fun _ h9 => h9) rfl (by decide +kernel) rfl rfl (Nat.le_of_ble_eq_true rfl) d_PS_end_22 (fun H locs hP hD hS => ?_)
      have hP : va_P (dC, dI) classes [(h, .inr (0, [.ref tp, v1, v2, v3, v4, v5, v6, v7, v8, .int p0, .int flt]))] H := hP
      have hD : va_D A [(h, .inr (0, [.ref tp, v1, v2, v3, v4, v5, v6, v7, v8, .int p0, .int flt]))] := hD
      refine lv_iload_n hx hb d_PS_end_25 rfl (lv_at hl 1 rfl) ?_
      subst hp0
      refine W.widen (k := 1) (n := 6) (Nat.le_of_ble_eq_true rfl) (Nat.le_of_ble_eq_true rfl) ?_
      exact xc_ret (W.iret (v := nI n0) hx hb hr (fun t ht hW => ⟨Or.inl ⟨_, n0, rfl, ⟨hc, rfl, rfl⟩, (by rw [ht]; exact hP), va_K.moved hW.alike hK, hD⟩, hS.F ht⟩) hS.2.2 d_PS_end_26)
    · have hc : ¬ p0 ≤ nI L := c_9
      refine xc_thrownew (A := A) (own := "PatchStore") (C := "java/lang/IllegalArgumentException") (names := ["java/lang/RuntimeException", "java/lang/Exception"]) (i1 := 87) (i2 := 89) hx hb hml hl.1 hown hlocks hno htr (by decide +kernel) (by decide +kernel) (tw_PS_87 hts hN) (tr_PS_87) (ti_PS_87) (hTh.1.kept (fun a h1 h2 => hS.2.1 a h1 h2)) d_PS_end_12 d_PS_end_15 d_PS_end_16 d_PS_end_19 (Nat.le_of_ble_eq_true rfl) (Nat.le_of_ble_eq_true rfl) (Nat.le_of_ble_eq_true rfl) (Nat.le_of_ble_eq_true rfl) (fun x9 t9 H9 e1 e2 e3 hW9 hex => ⟨Or.inr ⟨x9, "java/lang/IllegalArgumentException", L, rfl, ⟨ps_end_bad p0 L (by omega) (by first | exact Or.inl hc | exact Or.inr hc), rfl, rfl⟩, hex, (by rw [e1]; exact hP.kept (fun k q hq => e3 q.1 ((hP k q hq).lt))), va_K.moved hW9.alike hK, hD⟩, (by rw [e1]; exact Nat.le_trans hS.1 e2), fun q h1 h2 => by rw [e1]; exact (e3 q (Nat.lt_of_lt_of_le h1 hS.1)).trans (hS.2.1 q h1 h2)⟩) hS.2.2
