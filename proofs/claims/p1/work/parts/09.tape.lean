/-! 09.tape.lean.txt -/
theorem gw_548 : (Jvm.Cond.fieldLink "PatchStore" (10 : Nat) "PatchStore" "tape" "[B") ∈ xg_1 := xg_s3 68 rfl rfl
theorem gw_557 : (Jvm.Cond.fieldLink "PatchStore" (76 : Nat) "PatchStore" "tapeLength" "I") ∈ xg_1 := xg_s3 77 rfl rfl
def y_PS_putOnTape : MethodName := ⟨"PatchStore", "putOnTape", "(I)V"⟩
abbrev c_PS_putOnTape : Cond := (Jvm.Cond.code ({ cls := "PatchStore", name := "putOnTape", desc := "(I)V" } : Jvm.MethodName) prog_1_method_20_code (2 : Nat) (Option.none : Option Jvm.ClassFile.FieldType))
abbrev ws_PS_putOnTape : List Cond := c_PS_putOnTape :: xg_1
theorem d_PS_putOnTape_0 : decode prog_1_method_20_code 0 = .ok (.aload_n 0, 1) := by decide +kernel
theorem d_PS_putOnTape_1 : decode prog_1_method_20_code 1 = .ok (.getfield 10, 3) := by decide +kernel
theorem d_PS_putOnTape_4 : decode prog_1_method_20_code 4 = .ok (.aload_n 0, 1) := by decide +kernel
theorem d_PS_putOnTape_5 : decode prog_1_method_20_code 5 = .ok (.getfield 76, 3) := by decide +kernel
theorem d_PS_putOnTape_8 : decode prog_1_method_20_code 8 = .ok (.iload_n 1, 1) := by decide +kernel
theorem d_PS_putOnTape_9 : decode prog_1_method_20_code 9 = .ok (.bipush 24, 2) := by decide +kernel
theorem d_PS_putOnTape_11 : decode prog_1_method_20_code 11 = .ok (.ishr, 1) := by decide +kernel
theorem d_PS_putOnTape_12 : decode prog_1_method_20_code 12 = .ok (.i2b, 1) := by decide +kernel
theorem d_PS_putOnTape_13 : decode prog_1_method_20_code 13 = .ok (.bastore, 1) := by decide +kernel
theorem d_PS_putOnTape_14 : decode prog_1_method_20_code 14 = .ok (.aload_n 0, 1) := by decide +kernel
theorem d_PS_putOnTape_15 : decode prog_1_method_20_code 15 = .ok (.getfield 10, 3) := by decide +kernel
theorem d_PS_putOnTape_18 : decode prog_1_method_20_code 18 = .ok (.aload_n 0, 1) := by decide +kernel
theorem d_PS_putOnTape_19 : decode prog_1_method_20_code 19 = .ok (.getfield 76, 3) := by decide +kernel
theorem d_PS_putOnTape_22 : decode prog_1_method_20_code 22 = .ok (.iconst 1, 1) := by decide +kernel
theorem d_PS_putOnTape_23 : decode prog_1_method_20_code 23 = .ok (.iadd, 1) := by decide +kernel
theorem d_PS_putOnTape_24 : decode prog_1_method_20_code 24 = .ok (.iload_n 1, 1) := by decide +kernel
theorem d_PS_putOnTape_25 : decode prog_1_method_20_code 25 = .ok (.bipush 16, 2) := by decide +kernel
theorem d_PS_putOnTape_27 : decode prog_1_method_20_code 27 = .ok (.ishr, 1) := by decide +kernel
theorem d_PS_putOnTape_28 : decode prog_1_method_20_code 28 = .ok (.i2b, 1) := by decide +kernel
theorem d_PS_putOnTape_29 : decode prog_1_method_20_code 29 = .ok (.bastore, 1) := by decide +kernel
theorem d_PS_putOnTape_30 : decode prog_1_method_20_code 30 = .ok (.aload_n 0, 1) := by decide +kernel
theorem d_PS_putOnTape_31 : decode prog_1_method_20_code 31 = .ok (.getfield 10, 3) := by decide +kernel
theorem d_PS_putOnTape_34 : decode prog_1_method_20_code 34 = .ok (.aload_n 0, 1) := by decide +kernel
theorem d_PS_putOnTape_35 : decode prog_1_method_20_code 35 = .ok (.getfield 76, 3) := by decide +kernel
theorem d_PS_putOnTape_38 : decode prog_1_method_20_code 38 = .ok (.iconst 2, 1) := by decide +kernel
theorem d_PS_putOnTape_39 : decode prog_1_method_20_code 39 = .ok (.iadd, 1) := by decide +kernel
theorem d_PS_putOnTape_40 : decode prog_1_method_20_code 40 = .ok (.iload_n 1, 1) := by decide +kernel
theorem d_PS_putOnTape_41 : decode prog_1_method_20_code 41 = .ok (.bipush 8, 2) := by decide +kernel
theorem d_PS_putOnTape_43 : decode prog_1_method_20_code 43 = .ok (.ishr, 1) := by decide +kernel
theorem d_PS_putOnTape_44 : decode prog_1_method_20_code 44 = .ok (.i2b, 1) := by decide +kernel
theorem d_PS_putOnTape_45 : decode prog_1_method_20_code 45 = .ok (.bastore, 1) := by decide +kernel
theorem d_PS_putOnTape_46 : decode prog_1_method_20_code 46 = .ok (.aload_n 0, 1) := by decide +kernel
theorem d_PS_putOnTape_47 : decode prog_1_method_20_code 47 = .ok (.getfield 10, 3) := by decide +kernel
theorem d_PS_putOnTape_50 : decode prog_1_method_20_code 50 = .ok (.aload_n 0, 1) := by decide +kernel
theorem d_PS_putOnTape_51 : decode prog_1_method_20_code 51 = .ok (.getfield 76, 3) := by decide +kernel
theorem d_PS_putOnTape_54 : decode prog_1_method_20_code 54 = .ok (.iconst 3, 1) := by decide +kernel
theorem d_PS_putOnTape_55 : decode prog_1_method_20_code 55 = .ok (.iadd, 1) := by decide +kernel
theorem d_PS_putOnTape_56 : decode prog_1_method_20_code 56 = .ok (.iload_n 1, 1) := by decide +kernel
theorem d_PS_putOnTape_57 : decode prog_1_method_20_code 57 = .ok (.i2b, 1) := by decide +kernel
theorem d_PS_putOnTape_58 : decode prog_1_method_20_code 58 = .ok (.bastore, 1) := by decide +kernel
theorem d_PS_putOnTape_59 : decode prog_1_method_20_code 59 = .ok (.aload_n 0, 1) := by decide +kernel
theorem d_PS_putOnTape_60 : decode prog_1_method_20_code 60 = .ok (.dup, 1) := by decide +kernel
theorem d_PS_putOnTape_61 : decode prog_1_method_20_code 61 = .ok (.getfield 76, 3) := by decide +kernel
theorem d_PS_putOnTape_64 : decode prog_1_method_20_code 64 = .ok (.iconst 4, 1) := by decide +kernel
theorem d_PS_putOnTape_65 : decode prog_1_method_20_code 65 = .ok (.iadd, 1) := by decide +kernel
theorem d_PS_putOnTape_66 : decode prog_1_method_20_code 66 = .ok (.putfield 76, 3) := by decide +kernel
theorem d_PS_putOnTape_69 : decode prog_1_method_20_code 69 = .ok (.return_, 1) := by decide +kernel
def ps_put4 (f : Nat → Int32) (L : Nat) (w : Int32) : Nat → Int32 := upd (upd (upd (upd f L ((w >>> (24 &&& 31)) : Int32).toInt8.toInt32) (L + 1) ((w >>> (16 &&& 31)) : Int32).toInt8.toInt32) (L + 2) ((w >>> (8 &&& 31)) : Int32).toInt8.toInt32) (L + 3) (w : Int32).toInt8.toInt32
set_option maxHeartbeats 4000000 in
set_option maxRecDepth 100000 in
/-- putOnTape: four bytes more on the tape -/
theorem m_PS_putOnTape (l : Launch) (dC : Nat → ClassId) (dI : Nat → Nat → Nat) (cI cB cL cZ cR : ClassId) (h tp : Nat) (v1 v2 v3 v4 v5 v6 v7 v8 : Value) (L : Nat) (flt : Int32) (f : Nat → Int32) (w : Int32) (sz : Nat) (hL : L + 4 ≤ 65536) : Met l y_PS_putOnTape ws_PS_putOnTape ({ frames := 0, cells := 0, slots := 0, locals := 0 }) (xw_Pc dC dI [(cI, .int), (cB, .byte), (cL, .long), (cZ, .boolean), (cR, .object "PatchStore$Repository")] [.ref h, .int w] [(h, .inr (0, [.ref tp, v1, v2, v3, v4, v5, v6, v7, v8, .int (nI L), .int flt])), (tp, .inl (cB, 65536, .inl f))] sz) (va_Qv (fun _ : Unit => True) (fun _ t => xw_B dC dI [(cI, .int), (cB, .byte), (cL, .long), (cZ, .boolean), (cR, .object "PatchStore$Repository")] (va_A [(h, .inr (0, [.ref tp, v1, v2, v3, v4, v5, v6, v7, v8, .int (nI L), .int flt])), (tp, .inl (cB, 65536, .inl f))] sz) [(h, .inr (0, [.ref tp, v1, v2, v3, v4, v5, v6, v7, v8, .int (nI (L + 4)), .int flt])), (tp, .inl (cB, 65536, .inl (ps_put4 f L w)))] t) (va_A [(h, .inr (0, [.ref tp, v1, v2, v3, v4, v5, v6, v7, v8, .int (nI L), .int flt])), (tp, .inl (cB, 65536, .inl f))] sz)) 0 0 (va_A [(h, .inr (0, [.ref tp, v1, v2, v3, v4, v5, v6, v7, v8, .int (nI L), .int flt])), (tp, .inl (cB, 65536, .inl f))] sz) := by
  refine Met.ofW (cc := prog_1_method_20_code) (maxL := 2) (ret := none) (by decide) rfl ?_
  intro p e s m args below meth c s₁ B hml hv
  obtain ⟨rfl, hsz, hP, hK, hD0⟩ := hv
  have hx := B.exec
  have hb := B.bytes
  have hr := B.returns
  have hts0 := atoms_spec (ws := ws_PS_putOnTape) B.pre
  have hts : ∀ w ∈ xg_1, w.before _ s = true := fun w h => hts0 w (List.mem_cons_of_mem _ h)
  have hown : s.vm.findClass "PatchStore" = some m.cls := findClass_of_methodNamed B.named
  have hlocks := B.notSynchronized
  subst hsz
  have hD := hD0.self (sz := s.heap.size)
  generalize hAe : va_A [(h, .inr (0, [.ref tp, v1, v2, v3, v4, v5, v6, v7, v8, .int (nI L), .int flt])), (tp, .inl (cB, 65536, .inl f))] s.heap.size = A at hD ⊢
  have hA : ∀ q : Nat, s.heap.size ≤ q → A q := fun q h => by rw [← hAe]; exact Or.inr h
  have hS : va_S A s.heap s.heap [] := va_S.rf
  have hl := lv_entry ([.ref h, .int w]) (n := 2) (Nat.le_of_ble_eq_true rfl)
  rw [lg_entry_eq]
  generalize (lg_sl ([.ref h, .int w]) ++ List.replicate (2 - (lg_sl ([.ref h, .int w])).length) Slot.unset).toArray = ls at hl ⊢
  have hl : lv_has ls 2 [(0, .ref h), (1, .int w)] := hl
  refine lv_aload_n hx hb d_PS_putOnTape_0 rfl (lv_at hl 0 rfl) ?_
  refine va_get (D := (dC, dI)) (ci := 0) (v := .ref tp) (C := R_PS) (T := F_PS) (N := 11) hx hb hts i_PS hown hK hP 0 rfl rfl 0 (by decide) (hts _ gw_548) (fun _ h9 => h9) rfl d_PS_putOnTape_1 ?_
  refine lv_aload_n hx hb d_PS_putOnTape_4 rfl (lv_at hl 0 rfl) ?_
  refine va_get (D := (dC, dI)) (ci := 0) (v := .int (nI L)) (C := R_PS) (T := F_PS) (N := 11) hx hb hts i_PS hown hK hP 0 rfl rfl 9 (by decide) (hts _ gw_557) (fun _ h9 => h9) rfl d_PS_putOnTape_5 ?_
  refine lv_iload_n hx hb d_PS_putOnTape_8 rfl (lv_at hl 1 rfl) ?_
  refine lv_bipush (v := 24) hx hb d_PS_putOnTape_9 (by decide) ?_
  refine lv_ishr hx hb d_PS_putOnTape_11 ?_
  refine lv_i2b hx hb d_PS_putOnTape_12 rfl ?_
  refine va_bast hx hb hK hP hD hS 1 1 rfl rfl (vp_in_nI (by omega) (by omega)) d_PS_putOnTape_13 (fun H locs hP hD hS => ?_)
  rw [show (nI L).toNatClampNeg = L from nI_clamp (by omega)] at hP hD
  rw [pk_vb] at hP hD
  have hP : va_P (dC, dI) classes [(h, .inr (0, [.ref tp, v1, v2, v3, v4, v5, v6, v7, v8, .int (nI L), .int flt])), (tp, .inl (cB, 65536, .inl (upd f L ((w >>> (24 &&& 31) : Int32).toInt8.toInt32))))] H := hP
  have hD : va_D A [(h, .inr (0, [.ref tp, v1, v2, v3, v4, v5, v6, v7, v8, .int (nI L), .int flt])), (tp, .inl (cB, 65536, .inl (upd f L ((w >>> (24 &&& 31) : Int32).toInt8.toInt32))))] := hD
  refine lv_aload_n hx hb d_PS_putOnTape_14 rfl (lv_at hl 0 rfl) ?_
  refine va_get (D := (dC, dI)) (ci := 0) (v := .ref tp) (C := R_PS) (T := F_PS) (N := 11) hx hb hts i_PS hown hK hP 0 rfl rfl 0 (by decide) (hts _ gw_548) (fun _ h9 => h9) rfl d_PS_putOnTape_15 ?_
  refine lv_aload_n hx hb d_PS_putOnTape_18 rfl (lv_at hl 0 rfl) ?_
  refine va_get (D := (dC, dI)) (ci := 0) (v := .int (nI L)) (C := R_PS) (T := F_PS) (N := 11) hx hb hts i_PS hown hK hP 0 rfl rfl 9 (by decide) (hts _ gw_557) (fun _ h9 => h9) rfl d_PS_putOnTape_19 ?_
  refine lv_iconst (v := 1) hx hb d_PS_putOnTape_22 (by decide) ?_
  refine lv_iadd hx hb d_PS_putOnTape_23 ?_
  refine lv_topi (fun x_1 ex_1 => ?_)
  obtain rfl : x_1 = nI (L + 1) := by rw [ex_1]; first | done | (exact nI_add L 1)
  refine lv_iload_n hx hb d_PS_putOnTape_24 rfl (lv_at hl 1 rfl) ?_
  refine lv_bipush (v := 16) hx hb d_PS_putOnTape_25 (by decide) ?_
  refine lv_ishr hx hb d_PS_putOnTape_27 ?_
  refine lv_i2b hx hb d_PS_putOnTape_28 rfl ?_
  refine va_bast hx hb hK hP hD hS 1 1 rfl rfl (vp_in_nI (by omega) (by omega)) d_PS_putOnTape_29 (fun H locs hP hD hS => ?_)
  rw [show (nI (L + 1)).toNatClampNeg = (L + 1) from nI_clamp (by omega)] at hP hD
  rw [pk_vb] at hP hD
  have hP : va_P (dC, dI) classes [(h, .inr (0, [.ref tp, v1, v2, v3, v4, v5, v6, v7, v8, .int (nI L), .int flt])), (tp, .inl (cB, 65536, .inl (upd (upd f L ((w >>> (24 &&& 31) : Int32).toInt8.toInt32)) (L + 1) ((w >>> (16 &&& 31) : Int32).toInt8.toInt32))))] H := hP
  have hD : va_D A [(h, .inr (0, [.ref tp, v1, v2, v3, v4, v5, v6, v7, v8, .int (nI L), .int flt])), (tp, .inl (cB, 65536, .inl (upd (upd f L ((w >>> (24 &&& 31) : Int32).toInt8.toInt32)) (L + 1) ((w >>> (16 &&& 31) : Int32).toInt8.toInt32))))] := hD
  refine lv_aload_n hx hb d_PS_putOnTape_30 rfl (lv_at hl 0 rfl) ?_
  refine va_get (D := (dC, dI)) (ci := 0) (v := .ref tp) (C := R_PS) (T := F_PS) (N := 11) hx hb hts i_PS hown hK hP 0 rfl rfl 0 (by decide) (hts _ gw_548) (fun _ h9 => h9) rfl d_PS_putOnTape_31 ?_
  refine lv_aload_n hx hb d_PS_putOnTape_34 rfl (lv_at hl 0 rfl) ?_
  refine va_get (D := (dC, dI)) (ci := 0) (v := .int (nI L)) (C := R_PS) (T := F_PS) (N := 11) hx hb hts i_PS hown hK hP 0 rfl rfl 9 (by decide) (hts _ gw_557) (fun _ h9 => h9) rfl d_PS_putOnTape_35 ?_
  refine lv_iconst (v := 2) hx hb d_PS_putOnTape_38 (by decide) ?_
  refine lv_iadd hx hb d_PS_putOnTape_39 ?_
  refine lv_topi (fun x_2 ex_2 => ?_)
  obtain rfl : x_2 = nI (L + 2) := by rw [ex_2]; first | done | (exact nI_add L 2)
  refine lv_iload_n hx hb d_PS_putOnTape_40 rfl (lv_at hl 1 rfl) ?_
  refine lv_bipush (v := 8) hx hb d_PS_putOnTape_41 (by decide) ?_
  refine lv_ishr hx hb d_PS_putOnTape_43 ?_
  refine lv_i2b hx hb d_PS_putOnTape_44 rfl ?_
  refine va_bast hx hb hK hP hD hS 1 1 rfl rfl (vp_in_nI (by omega) (by omega)) d_PS_putOnTape_45 (fun H locs hP hD hS => ?_)
  rw [show (nI (L + 2)).toNatClampNeg = (L + 2) from nI_clamp (by omega)] at hP hD
  rw [pk_vb] at hP hD
  have hP : va_P (dC, dI) classes [(h, .inr (0, [.ref tp, v1, v2, v3, v4, v5, v6, v7, v8, .int (nI L), .int flt])), (tp, .inl (cB, 65536, .inl (upd (upd (upd f L ((w >>> (24 &&& 31) : Int32).toInt8.toInt32)) (L + 1) ((w >>> (16 &&& 31) : Int32).toInt8.toInt32)) (L + 2) ((w >>> (8 &&& 31) : Int32).toInt8.toInt32))))] H := hP
  have hD : va_D A [(h, .inr (0, [.ref tp, v1, v2, v3, v4, v5, v6, v7, v8, .int (nI L), .int flt])), (tp, .inl (cB, 65536, .inl (upd (upd (upd f L ((w >>> (24 &&& 31) : Int32).toInt8.toInt32)) (L + 1) ((w >>> (16 &&& 31) : Int32).toInt8.toInt32)) (L + 2) ((w >>> (8 &&& 31) : Int32).toInt8.toInt32))))] := hD
  refine lv_aload_n hx hb d_PS_putOnTape_46 rfl (lv_at hl 0 rfl) ?_
  refine va_get (D := (dC, dI)) (ci := 0) (v := .ref tp) (C := R_PS) (T := F_PS) (N := 11) hx hb hts i_PS hown hK hP 0 rfl rfl 0 (by decide) (hts _ gw_548) (fun _ h9 => h9) rfl d_PS_putOnTape_47 ?_
  refine lv_aload_n hx hb d_PS_putOnTape_50 rfl (lv_at hl 0 rfl) ?_
  refine va_get (D := (dC, dI)) (ci := 0) (v := .int (nI L)) (C := R_PS) (T := F_PS) (N := 11) hx hb hts i_PS hown hK hP 0 rfl rfl 9 (by decide) (hts _ gw_557) (fun _ h9 => h9) rfl d_PS_putOnTape_51 ?_
  refine lv_iconst (v := 3) hx hb d_PS_putOnTape_54 (by decide) ?_
  refine lv_iadd hx hb d_PS_putOnTape_55 ?_
  refine lv_topi (fun x_3 ex_3 => ?_)
  obtain rfl : x_3 = nI (L + 3) := by rw [ex_3]; first | done | (exact nI_add L 3)
  refine lv_iload_n hx hb d_PS_putOnTape_56 rfl (lv_at hl 1 rfl) ?_
  refine lv_i2b hx hb d_PS_putOnTape_57 rfl ?_
  refine va_bast hx hb hK hP hD hS 1 1 rfl rfl (vp_in_nI (by omega) (by omega)) d_PS_putOnTape_58 (fun H locs hP hD hS => ?_)
  rw [show (nI (L + 3)).toNatClampNeg = (L + 3) from nI_clamp (by omega)] at hP hD
  rw [pk_vb] at hP hD
  have hP : va_P (dC, dI) classes [(h, .inr (0, [.ref tp, v1, v2, v3, v4, v5, v6, v7, v8, .int (nI L), .int flt])), (tp, .inl (cB, 65536, .inl (upd (upd (upd (upd f L ((w >>> (24 &&& 31) : Int32).toInt8.toInt32)) (L + 1) ((w >>> (16 &&& 31) : Int32).toInt8.toInt32)) (L + 2) ((w >>> (8 &&& 31) : Int32).toInt8.toInt32)) (L + 3) ((w : Int32).toInt8.toInt32))))] H := hP
  have hD : va_D A [(h, .inr (0, [.ref tp, v1, v2, v3, v4, v5, v6, v7, v8, .int (nI L), .int flt])), (tp, .inl (cB, 65536, .inl (upd (upd (upd (upd f L ((w >>> (24 &&& 31) : Int32).toInt8.toInt32)) (L + 1) ((w >>> (16 &&& 31) : Int32).toInt8.toInt32)) (L + 2) ((w >>> (8 &&& 31) : Int32).toInt8.toInt32)) (L + 3) ((w : Int32).toInt8.toInt32))))] := hD
  refine lv_aload_n hx hb d_PS_putOnTape_59 rfl (lv_at hl 0 rfl) ?_
  refine lv_dup hx hb d_PS_putOnTape_60 rfl ?_
  refine va_get (D := (dC, dI)) (ci := 0) (v := .int (nI L)) (C := R_PS) (T := F_PS) (N := 11) hx hb hts i_PS hown hK hP 0 rfl rfl 9 (by decide) (hts _ gw_557) (fun _ h9 => h9) rfl d_PS_putOnTape_61 ?_
  refine lv_iconst (v := 4) hx hb d_PS_putOnTape_64 (by decide) ?_
  refine lv_iadd hx hb d_PS_putOnTape_65 ?_
  refine lv_topi (fun x_4 ex_4 => ?_)
  obtain rfl : x_4 = nI (L + 4) := by rw [ex_4]; first | done | (exact nI_add L 4)
  refine va_put (D := (dC, dI)) (ci := 0) (v := .int (nI (L + 4))) (ty := .int) (C := R_PS) (T := F_PS) (N := 11) hx hb hts i_PS t_PS t_PS_ok n_PS hown hK hP hD hS 0 rfl rfl 9 (by decide) (hts _ gw_557) (fun _ h9 => h9) rfl (by decide +kernel) rfl rfl (Nat.le_of_ble_eq_true rfl) d_PS_putOnTape_66 (fun H locs hP hD hS => ?_)
  have hP : va_P (dC, dI) classes [(h, .inr (0, [.ref tp, v1, v2, v3, v4, v5, v6, v7, v8, .int (nI (L + 4)), .int flt])), (tp, .inl (cB, 65536, .inl (upd (upd (upd (upd f L ((w >>> (24 &&& 31) : Int32).toInt8.toInt32)) (L + 1) ((w >>> (16 &&& 31) : Int32).toInt8.toInt32)) (L + 2) ((w >>> (8 &&& 31) : Int32).toInt8.toInt32)) (L + 3) ((w : Int32).toInt8.toInt32))))] H := hP
  have hD : va_D A [(h, .inr (0, [.ref tp, v1, v2, v3, v4, v5, v6, v7, v8, .int (nI (L + 4)), .int flt])), (tp, .inl (cB, 65536, .inl (upd (upd (upd (upd f L ((w >>> (24 &&& 31) : Int32).toInt8.toInt32)) (L + 1) ((w >>> (16 &&& 31) : Int32).toInt8.toInt32)) (L + 2) ((w >>> (8 &&& 31) : Int32).toInt8.toInt32)) (L + 3) ((w : Int32).toInt8.toInt32))))] := hD
  exact W.vret hx hb hr (fun t ht hW => ⟨⟨(), rfl, trivial, by rw [ht]; exact hP, va_K.moved hW.alike hK, hD⟩, hS.F ht⟩) hS.2.2 d_PS_putOnTape_69
