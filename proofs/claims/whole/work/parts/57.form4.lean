/-! 57.form4.lean.txt -/
theorem gw_774 : (Jvm.Cond.methodLink "PatchStore$Form" (29 : Nat) ({ cls := "PatchStore$Form", name := "isRising", desc := "(II)Z" } : Jvm.MethodName)) ∈ xg_1 := xg_s4 54 rfl rfl
theorem gw_776 : (Jvm.Cond.instanceMethod ({ cls := "PatchStore$Form", name := "isRising", desc := "(II)Z" } : Jvm.MethodName)) ∈ xg_1 := xg_s4 56 rfl rfl
theorem gw_777 : (Jvm.Cond.code ({ cls := "PatchStore$Form", name := "isRising", desc := "(II)Z" } : Jvm.MethodName) prog_3_method_4_code (5 : Nat) (Option.some Jvm.ClassFile.FieldType.boolean)) ∈ xg_1 := xg_s4 57 rfl rfl
theorem gw_781 : (Jvm.Cond.methodLink "PatchStore$Form" (33 : Nat) ({ cls := "PatchStore$Form", name := "changesEnd", desc := "(II)I" } : Jvm.MethodName)) ∈ xg_1 := xg_s4 61 rfl rfl
theorem gw_783 : (Jvm.Cond.instanceMethod ({ cls := "PatchStore$Form", name := "changesEnd", desc := "(II)I" } : Jvm.MethodName)) ∈ xg_1 := xg_s4 63 rfl rfl
theorem gw_784 : (Jvm.Cond.code ({ cls := "PatchStore$Form", name := "changesEnd", desc := "(II)I" } : Jvm.MethodName) prog_3_method_5_code (7 : Nat) (Option.some Jvm.ClassFile.FieldType.int)) ∈ xg_1 := xg_s4 64 rfl rfl
theorem chain.top {f : Nat → Int32} {en a T : Nat} (h : chain f en a T) (hT : ¬ T = 0) : sS f en a T ≤ en := by
  have h1 := (h (T - 1) (by omega)).2.le.2
  rwa [show T - 1 + 1 = T by omega] at h1
theorem nI_nm1 {n : Nat} (h : n < 2 ^ 31) : ¬ (-1 : Int32) = nI n := by
  intro z
  have := congrArg Int32.toInt z
  rw [nI_toInt h] at this
  have h1 : (-1 : Int32).toInt = -1 := by decide
  omega
set_option maxHeartbeats 4000000 in
set_option maxRecDepth 100000 in
/-- whether the candidate has the form of bytes -/
theorem m_Fo_isKept (l : Launch) (dC : Nat → ClassId) (dI : Nat → Nat → Nat) (cI cB cL cZ cR : ClassId) (h sk b_y fcA ch cat fr : Nat) (sk_firstDependency sk_dependencies sk_hashes sk_byHash sk_leansOn sk_leantBy sk_lines ch_patch ch_file ch_firstLine ch_adds ch_files : Value) (f ca fcf frf : Nat → Int32) (P F s0 en : Nat) (sz : Nat) (he : en ≤ 290000) (hs0 : frf P = nI s0) (hen : frf (P + 1) = nI en) (hse0 : s0 ≤ en) (hP5 : P ≤ 500) (hF : fcf P = nI F) (hF2 : F < 38000) (hroom : ∀ i, i < tw f (s0 + 2 + tw f s0 * 32) → s0 + 4 + 7 * i < en → F + i < 38000) : Met l y_Fo_isKept ws_Fo_isKept ({ frames := 5, cells := 0, slots := 0, locals := 300 }) (xw_Pc dC dI [(cI, .int), (cB, .byte), (cL, .long), (cZ, .boolean), (cR, .object "PatchStore$Repository")] [.ref h] [(h, .inr (2, [.ref sk])), (sk, .inr (9, [.ref b_y, .ref fr, sk_firstDependency, .ref fcA, sk_dependencies, sk_hashes, sk_byHash, sk_leansOn, sk_leantBy, .ref ch, sk_lines, .int (nI P)])), (b_y, .inl (cB, 290000, .inl f)), (fcA, .inl (cI, 502, .inl fcf)), (ch, .inr (1, [.ref cat, ch_patch, ch_file, ch_firstLine, ch_adds, ch_files])), (cat, .inl (cI, 38000, .inl ca)), (fr, .inl (cI, 502, .inl frf))] sz) (va_Qi (fun (r : Int32) (u : (Nat → Int32) × (Nat → Int32)) => ((r = 1 ∧ kept f s0 en ∧ (∀ j, j < tw f (s0 + 2 + tw f s0 * 32) → u.1 (F + j) = nI (sS f en (s0 + 2 + tw f s0 * 32 + 2) j)) ∧ u.2 = upd fcf (P + 1) (nI (F + tw f (s0 + 2 + tw f s0 * 32)))) ∨ (r = 0 ∧ ¬ kept f s0 en)) ∧ (∀ k, k < F → u.1 k = ca k) ∧ (∀ k, k ≤ P → u.2 k = fcf k)) (fun u t => xw_B dC dI [(cI, .int), (cB, .byte), (cL, .long), (cZ, .boolean), (cR, .object "PatchStore$Repository")] (va_A [(h, .inr (2, [.ref sk])), (sk, .inr (9, [.ref b_y, .ref fr, sk_firstDependency, .ref fcA, sk_dependencies, sk_hashes, sk_byHash, sk_leansOn, sk_leantBy, .ref ch, sk_lines, .int (nI P)])), (b_y, .inl (cB, 290000, .inl f)), (fcA, .inl (cI, 502, .inl fcf)), (ch, .inr (1, [.ref cat, ch_patch, ch_file, ch_firstLine, ch_adds, ch_files])), (cat, .inl (cI, 38000, .inl ca)), (fr, .inl (cI, 502, .inl frf))] sz) [(h, .inr (2, [.ref sk])), (sk, .inr (9, [.ref b_y, .ref fr, sk_firstDependency, .ref fcA, sk_dependencies, sk_hashes, sk_byHash, sk_leansOn, sk_leantBy, .ref ch, sk_lines, .int (nI P)])), (b_y, .inl (cB, 290000, .inl f)), (fcA, .inl (cI, 502, .inl u.2)), (ch, .inr (1, [.ref cat, ch_patch, ch_file, ch_firstLine, ch_adds, ch_files])), (cat, .inl (cI, 38000, .inl u.1)), (fr, .inl (cI, 502, .inl frf))] t) (va_A [(h, .inr (2, [.ref sk])), (sk, .inr (9, [.ref b_y, .ref fr, sk_firstDependency, .ref fcA, sk_dependencies, sk_hashes, sk_byHash, sk_leansOn, sk_leantBy, .ref ch, sk_lines, .int (nI P)])), (b_y, .inl (cB, 290000, .inl f)), (fcA, .inl (cI, 502, .inl fcf)), (ch, .inr (1, [.ref cat, ch_patch, ch_file, ch_firstLine, ch_adds, ch_files])), (cat, .inl (cI, 38000, .inl ca)), (fr, .inl (cI, 502, .inl frf))] sz)) 0 0 (va_A [(h, .inr (2, [.ref sk])), (sk, .inr (9, [.ref b_y, .ref fr, sk_firstDependency, .ref fcA, sk_dependencies, sk_hashes, sk_byHash, sk_leansOn, sk_leantBy, .ref ch, sk_lines, .int (nI P)])), (b_y, .inl (cB, 290000, .inl f)), (fcA, .inl (cI, 502, .inl fcf)), (ch, .inr (1, [.ref cat, ch_patch, ch_file, ch_firstLine, ch_adds, ch_files])), (cat, .inl (cI, 38000, .inl ca)), (fr, .inl (cI, 502, .inl frf))] sz) := by
  refine Met.ofW (cc := prog_3_method_3_code) (maxL := 5) (ret := (Option.some Jvm.ClassFile.FieldType.boolean)) (by decide) rfl ?_
  intro p e s m args below meth c s₁ B hml hv
  obtain ⟨rfl, hsz, hP, hK, hD0⟩ := hv
  have hx := B.exec
  have hb := B.bytes
  have hr := B.returns
  have hts0 := atoms_spec (ws := ws_Fo_isKept) B.pre
  have hts : ∀ w ∈ xg_1, w.before _ s = true := fun w h => hts0 w (List.mem_cons_of_mem _ h)
  have hown : s.vm.findClass "PatchStore$Form" = some m.cls := findClass_of_methodNamed B.named
  have hlocks := B.notSynchronized
  subst hsz
  have hD := hD0.self (sz := s.heap.size)
  generalize hAe : va_A [(h, .inr (2, [.ref sk])), (sk, .inr (9, [.ref b_y, .ref fr, sk_firstDependency, .ref fcA, sk_dependencies, sk_hashes, sk_byHash, sk_leansOn, sk_leantBy, .ref ch, sk_lines, .int (nI P)])), (b_y, .inl (cB, 290000, .inl f)), (fcA, .inl (cI, 502, .inl fcf)), (ch, .inr (1, [.ref cat, ch_patch, ch_file, ch_firstLine, ch_adds, ch_files])), (cat, .inl (cI, 38000, .inl ca)), (fr, .inl (cI, 502, .inl frf))] s.heap.size = A at hD ⊢
  have hA : ∀ q : Nat, s.heap.size ≤ q → A q := fun q h => by rw [← hAe]; exact Or.inr h
  have hS : va_S A s.heap s.heap [] := va_S.rf
  have hl := lv_entry ([.ref h]) (n := 5) (Nat.le_of_ble_eq_true rfl)
  rw [lg_entry_eq]
  generalize (lg_sl ([.ref h]) ++ List.replicate (5 - (lg_sl ([.ref h])).length) Slot.unset).toArray = ls at hl ⊢
  have hl : lv_has ls 5 [(0, .ref h)] := hl
  generalize hQe : MQ _ _ _ _ _ _ _ = Q
  refine lv_aload_n hx hb d_Fo_isKept_0 rfl (lv_at hl 0 rfl) ?_
  refine va_get (D := (dC, dI)) (ci := 2) (v := .ref sk) (C := R_Fo) (T := F_Fo) (N := 1) hx hb hts i_Fo hown hK hP 0 rfl rfl 0 (by decide) (hts _ gw_280) (fun _ h9 => h9) rfl d_Fo_isKept_1 ?_
  refine va_get (D := (dC, dI)) (ci := 9) (v := .ref fr) (C := R_St) (T := F_St) (N := 12) hx hb hts i_St hown hK hP 1 rfl rfl 1 (by decide) (hts _ gw_190) (fun _ h9 => h9) rfl d_Fo_isKept_4 ?_
  refine lv_aload_n hx hb d_Fo_isKept_7 rfl (lv_at hl 0 rfl) ?_
  refine va_get (D := (dC, dI)) (ci := 2) (v := .ref sk) (C := R_Fo) (T := F_Fo) (N := 1) hx hb hts i_Fo hown hK hP 0 rfl rfl 0 (by decide) (hts _ gw_280) (fun _ h9 => h9) rfl d_Fo_isKept_8 ?_
  refine va_get (D := (dC, dI)) (ci := 9) (v := .int (nI P)) (C := R_St) (T := F_St) (N := 12) hx hb hts i_St hown hK hP 1 rfl rfl 11 (by decide) (hts _ gw_239) (fun _ h9 => h9) rfl d_Fo_isKept_11 ?_
  refine va_iald hx hb hK hP 6 0 rfl rfl (vp_in_nI (by omega) (by omega)) d_Fo_isKept_14 ?_
  rw [show (nI P).toNatClampNeg = P from nI_clamp (by omega)]
  refine lv_topi (fun x_1 ex_1 => ?_)
  obtain rfl : x_1 = nI s0 := by rw [ex_1]; first | done | (exact hs0)
  refine lv_istore_n (lv' := [(1, .int (nI s0)), (0, .ref h)]) hx hb d_Fo_isKept_15 rfl hl (by decide) rfl (fun ls hl => ?_)
  refine lv_aload_n hx hb d_Fo_isKept_16 rfl (lv_at hl 1 rfl) ?_
  refine va_get (D := (dC, dI)) (ci := 2) (v := .ref sk) (C := R_Fo) (T := F_Fo) (N := 1) hx hb hts i_Fo hown hK hP 0 rfl rfl 0 (by decide) (hts _ gw_280) (fun _ h9 => h9) rfl d_Fo_isKept_17 ?_
  refine va_get (D := (dC, dI)) (ci := 9) (v := .ref fr) (C := R_St) (T := F_St) (N := 12) hx hb hts i_St hown hK hP 1 rfl rfl 1 (by decide) (hts _ gw_190) (fun _ h9 => h9) rfl d_Fo_isKept_20 ?_
  refine lv_aload_n hx hb d_Fo_isKept_23 rfl (lv_at hl 1 rfl) ?_
  refine va_get (D := (dC, dI)) (ci := 2) (v := .ref sk) (C := R_Fo) (T := F_Fo) (N := 1) hx hb hts i_Fo hown hK hP 0 rfl rfl 0 (by decide) (hts _ gw_280) (fun _ h9 => h9) rfl d_Fo_isKept_24 ?_
  refine va_get (D := (dC, dI)) (ci := 9) (v := .int (nI P)) (C := R_St) (T := F_St) (N := 12) hx hb hts i_St hown hK hP 1 rfl rfl 11 (by decide) (hts _ gw_239) (fun _ h9 => h9) rfl d_Fo_isKept_27 ?_
  refine lv_iconst (v := 1) hx hb d_Fo_isKept_30 (by decide) ?_
  refine lv_iadd hx hb d_Fo_isKept_31 ?_
  refine lv_topi (fun x_2 ex_2 => ?_)
  obtain rfl : x_2 = nI (P + 1) := by rw [ex_2]; first | done | (exact nI_add _ _)
  refine va_iald hx hb hK hP 6 0 rfl rfl (vp_in_nI (by omega) (by omega)) d_Fo_isKept_32 ?_
  rw [show (nI (P + 1)).toNatClampNeg = (P + 1) from nI_clamp (by omega)]
  refine lv_topi (fun x_3 ex_3 => ?_)
  obtain rfl : x_3 = nI en := by rw [ex_3]; first | done | (exact hen)
  refine lv_istore_n (lv' := [(2, .int (nI en)), (1, .int (nI s0)), (0, .ref h)]) hx hb d_Fo_isKept_33 rfl hl (by decide) rfl (fun ls hl => ?_)
  refine lv_iload_n hx hb d_Fo_isKept_34 rfl (lv_at hl 1 rfl) ?_
  refine lv_iconst (v := 4) hx hb d_Fo_isKept_35 (by decide) ?_
  refine lv_iadd hx hb d_Fo_isKept_36 ?_
  refine lv_topi (fun x_4 ex_4 => ?_)
  obtain rfl : x_4 = nI (s0 + 4) := by rw [ex_4]; first | done | (exact nI_add _ _)
  refine lv_iload_n hx hb d_Fo_isKept_37 rfl (lv_at hl 0 rfl) ?_
  refine lv_icmp_le (tgt := 43) hx hb d_Fo_isKept_38 (by decide) (fun c_38 => ?_) (fun c_38 => ?_)
  · have n_38 : (s0 + 4) ≤ en := (nI_leI (a := (s0 + 4)) (b := en) (by omega) (by omega)).mp c_38
    refine lv_aload_n hx hb d_Fo_isKept_43 rfl (lv_at hl 2 rfl) ?_
    refine va_get (D := (dC, dI)) (ci := 2) (v := .ref sk) (C := R_Fo) (T := F_Fo) (N := 1) hx hb hts i_Fo hown hK hP 0 rfl rfl 0 (by decide) (hts _ gw_280) (fun _ h9 => h9) rfl d_Fo_isKept_44 ?_
    refine lv_iload_n hx hb d_Fo_isKept_47 rfl (lv_at hl 1 rfl) ?_
    have hPc := hP.sub (ws' := [(sk, .inr (9, [.ref b_y, .ref fr, sk_firstDependency, .ref fcA, sk_dependencies, sk_hashes, sk_byHash, sk_leansOn, sk_leantBy, .ref ch, sk_lines, .int (nI P)])), (b_y, .inl (cB, 290000, .inl f))]) [1, 2] rfl
    have hDc := hD.sub (ws' := [(sk, .inr (9, [.ref b_y, .ref fr, sk_firstDependency, .ref fcA, sk_dependencies, sk_hashes, sk_byHash, sk_leansOn, sk_leantBy, .ref ch, sk_lines, .int (nI P)])), (b_y, .inl (cB, 290000, .inl f))]) [1, 2] (by decide) rfl
    have hFc := va_free (wc := [(sk, .inr (9, [.ref b_y, .ref fr, sk_firstDependency, .ref fcA, sk_dependencies, sk_hashes, sk_byHash, sk_leansOn, sk_leantBy, .ref ch, sk_lines, .int (nI P)])), (b_y, .inl (cB, 290000, .inl f))]) hD hS hA [1, 2] rfl
    refine va_calli (va_runV (As := [.int (nI s0)]) (rest := []) ⟨hx, hb, hml, hown, hts⟩ (m_St_two l dC dI cI cB cL cZ cR sk b_y (.ref fr) (sk_firstDependency) (.ref fcA) (sk_dependencies) (sk_hashes) (sk_byHash) (sk_leansOn) (sk_leantBy) (.ref ch) (sk_lines) (.int (nI P)) f s0 s.heap.size (by omega)) (cwV 1 hts (xg_V gw_770 gw_771 gw_772 gw_3 gw_773) rfl rfl rfl (by decide +kernel) ⟨Nat.le_of_ble_eq_true rfl, Nat.le_of_ble_eq_true rfl⟩) ⟨xw_blind, va_recv hK hPc (ci := 9) (q0 := 0) rfl rfl, fun U hU hW => ⟨rfl, by rw [hU], by rw [hU]; exact hPc, va_K.moved hW.alike hK, hDc.weaken (fun _ _ _ _ => trivial)⟩⟩ rfl rfl hl.1 rfl (lv_room (Nat.le_of_ble_eq_true rfl)) d_Fo_isKept_48 ⟨Nat.le_of_ble_eq_true rfl, Nat.le_of_ble_eq_true rfl⟩) hS (fun q _ h => hFc q h) hFc (fun r9 u t H1 locs ht hvm hw hB hz1 hk1 hS => ?_)
    obtain ⟨hP1, hK1, hD1⟩ := hB
    rw [ht] at hP1
    obtain ⟨hP, hD⟩ := va_join (wr := [(h, .inr (2, [.ref sk])), (fcA, .inl (cI, 502, .inl fcf)), (ch, .inr (1, [.ref cat, ch_patch, ch_file, ch_firstLine, ch_adds, ch_files])), (cat, .inl (cI, 38000, .inl ca)), (fr, .inl (cI, 502, .inl frf))]) (w1 := [(sk, .inr (9, [.ref b_y, .ref fr, sk_firstDependency, .ref fcA, sk_dependencies, sk_hashes, sk_byHash, sk_leansOn, sk_leantBy, .ref ch, sk_lines, .int (nI P)])), (b_y, .inl (cB, 290000, .inl f))]) hP hD [1, 2] [0, 3, 4, 5, 6] rfl rfl (by decide) (by decide) hk1 hFc hP1 hD1
    generalize H1 = H at hP hS ⊢
    have hP : va_P (dC, dI) classes [(h, .inr (2, [.ref sk])), (fcA, .inl (cI, 502, .inl fcf)), (ch, .inr (1, [.ref cat, ch_patch, ch_file, ch_firstLine, ch_adds, ch_files])), (cat, .inl (cI, 38000, .inl ca)), (fr, .inl (cI, 502, .inl frf)), (sk, .inr (9, [.ref b_y, .ref fr, sk_firstDependency, .ref fcA, sk_dependencies, sk_hashes, sk_byHash, sk_leansOn, sk_leantBy, .ref ch, sk_lines, .int (nI P)])), (b_y, .inl (cB, 290000, .inl f))] H := hP
    have hD : va_D A [(h, .inr (2, [.ref sk])), (fcA, .inl (cI, 502, .inl fcf)), (ch, .inr (1, [.ref cat, ch_patch, ch_file, ch_firstLine, ch_adds, ch_files])), (cat, .inl (cI, 38000, .inl ca)), (fr, .inl (cI, 502, .inl frf)), (sk, .inr (9, [.ref b_y, .ref fr, sk_firstDependency, .ref fcA, sk_dependencies, sk_hashes, sk_byHash, sk_leansOn, sk_leantBy, .ref ch, sk_lines, .int (nI P)])), (b_y, .inl (cB, 290000, .inl f))] := hD
    subst hw
    have htw9 := tw_lt f s0
    refine lv_istore_n (lv' := [(3, .int (nI (tw f s0))), (2, .int (nI en)), (1, .int (nI s0)), (0, .ref h)]) hx hb d_Fo_isKept_51 rfl hl (by decide) rfl (fun ls hl => ?_)
    refine lv_iload_n hx hb d_Fo_isKept_52 rfl (lv_at hl 2 rfl) ?_
    refine lv_iconst (v := 2) hx hb d_Fo_isKept_53 (by decide) ?_
    refine lv_iadd hx hb d_Fo_isKept_54 ?_
    refine lv_topi (fun x_5 ex_5 => ?_)
    obtain rfl : x_5 = nI (s0 + 2) := by rw [ex_5]; first | done | (exact nI_add _ _)
    refine lv_iload_n hx hb d_Fo_isKept_55 rfl (lv_at hl 0 rfl) ?_
    refine lv_bipush (v := 32) hx hb d_Fo_isKept_56 (by decide) ?_
    refine lv_imul hx hb d_Fo_isKept_58 ?_
    refine lv_topi (fun x_6 ex_6 => ?_)
    obtain rfl : x_6 = nI ((tw f s0) * 32) := by rw [ex_6]; first | done | (exact nI_mul _ _)
    refine lv_iadd hx hb d_Fo_isKept_59 ?_
    refine lv_topi (fun x_7 ex_7 => ?_)
    obtain rfl : x_7 = nI (s0 + 2 + ((tw f s0) * 32)) := by rw [ex_7]; first | done | (exact nI_add _ _)
    refine lv_istore (lv' := [(4, .int (nI (s0 + 2 + ((tw f s0) * 32)))), (3, .int (nI (tw f s0))), (2, .int (nI en)), (1, .int (nI s0)), (0, .ref h)]) hx hb d_Fo_isKept_60 hl (by decide) rfl (fun ls hl => ?_)
    refine lv_iload hx hb d_Fo_isKept_62 (lv_at hl 0 rfl) ?_
    refine lv_iconst (v := 2) hx hb d_Fo_isKept_64 (by decide) ?_
    refine lv_iadd hx hb d_Fo_isKept_65 ?_
    refine lv_topi (fun x_8 ex_8 => ?_)
    obtain rfl : x_8 = nI ((s0 + 2 + ((tw f s0) * 32)) + 2) := by rw [ex_8]; first | done | (exact nI_add _ _)
    refine lv_iload_n hx hb d_Fo_isKept_66 rfl (lv_at hl 2 rfl) ?_
    refine lv_icmp_gt (tgt := 96) hx hb d_Fo_isKept_67 (by decide) (fun c_67 => ?_) (fun c_67 => ?_)
    · have n_67 : en < ((s0 + 2 + ((tw f s0) * 32)) + 2) := (nI_ltI (a := en) (b := ((s0 + 2 + ((tw f s0) * 32)) + 2)) (by omega) (by omega)).mp c_67
      have hno : ¬ kept f s0 en := fun z => by have := z.2.1; omega
      refine lv_iconst (v := 0) hx hb d_Fo_isKept_96 (by decide) ?_
      have hP := hP.sub (ws' := [(h, .inr (2, [.ref sk])), (sk, .inr (9, [.ref b_y, .ref fr, sk_firstDependency, .ref fcA, sk_dependencies, sk_hashes, sk_byHash, sk_leansOn, sk_leantBy, .ref ch, sk_lines, .int (nI P)])), (b_y, .inl (cB, 290000, .inl f)), (fcA, .inl (cI, 502, .inl fcf)), (ch, .inr (1, [.ref cat, ch_patch, ch_file, ch_firstLine, ch_adds, ch_files])), (cat, .inl (cI, 38000, .inl ca)), (fr, .inl (cI, 502, .inl frf))]) [0, 5, 6, 1, 2, 3, 4] rfl
      have hD := hD.sub (ws' := [(h, .inr (2, [.ref sk])), (sk, .inr (9, [.ref b_y, .ref fr, sk_firstDependency, .ref fcA, sk_dependencies, sk_hashes, sk_byHash, sk_leansOn, sk_leantBy, .ref ch, sk_lines, .int (nI P)])), (b_y, .inl (cB, 290000, .inl f)), (fcA, .inl (cI, 502, .inl fcf)), (ch, .inr (1, [.ref cat, ch_patch, ch_file, ch_firstLine, ch_adds, ch_files])), (cat, .inl (cI, 38000, .inl ca)), (fr, .inl (cI, 502, .inl frf))]) [0, 5, 6, 1, 2, 3, 4] (by decide) rfl
      rw [← hQe]
      exact W.zret (v := 0) hx hb hr nz_b0 (fun t ht hW => ⟨⟨_, (ca, fcf), rfl, ⟨Or.inr ⟨rfl, hno⟩, fun _ _ => rfl, fun _ _ => rfl⟩, by rw [ht]; exact hP, va_K.moved hW.alike hK, hD⟩, hS.F ht⟩) hS.2.2 d_Fo_isKept_97
    · have n_67 : ((s0 + 2 + ((tw f s0) * 32)) + 2) ≤ en := Nat.le_of_not_lt (fun z => c_67 ((nI_ltI (a := en) (b := ((s0 + 2 + ((tw f s0) * 32)) + 2)) (by omega) (by omega)).mpr z))
      refine lv_aload_n hx hb d_Fo_isKept_70 rfl (lv_at hl 4 rfl) ?_
      refine lv_iload_n hx hb d_Fo_isKept_71 rfl (lv_at hl 3 rfl) ?_
      refine lv_iconst (v := 2) hx hb d_Fo_isKept_72 (by decide) ?_
      refine lv_iadd hx hb d_Fo_isKept_73 ?_
      refine lv_topi (fun x_9 ex_9 => ?_)
      obtain rfl : x_9 = nI (s0 + 2) := by rw [ex_9]; first | done | (exact nI_add _ _)
      refine lv_iload_n hx hb d_Fo_isKept_74 rfl (lv_at hl 1 rfl) ?_
      have hPc := hP.sub (ws' := [(h, .inr (2, [.ref sk])), (sk, .inr (9, [.ref b_y, .ref fr, sk_firstDependency, .ref fcA, sk_dependencies, sk_hashes, sk_byHash, sk_leansOn, sk_leantBy, .ref ch, sk_lines, .int (nI P)])), (b_y, .inl (cB, 290000, .inl f))]) [0, 5, 6] rfl
      have hDc := hD.sub (ws' := [(h, .inr (2, [.ref sk])), (sk, .inr (9, [.ref b_y, .ref fr, sk_firstDependency, .ref fcA, sk_dependencies, sk_hashes, sk_byHash, sk_leansOn, sk_leantBy, .ref ch, sk_lines, .int (nI P)])), (b_y, .inl (cB, 290000, .inl f))]) [0, 5, 6] (by decide) rfl
      have hFc := va_free (wc := [(h, .inr (2, [.ref sk])), (sk, .inr (9, [.ref b_y, .ref fr, sk_firstDependency, .ref fcA, sk_dependencies, sk_hashes, sk_byHash, sk_leansOn, sk_leantBy, .ref ch, sk_lines, .int (nI P)])), (b_y, .inl (cB, 290000, .inl f))]) hD hS hA [0, 5, 6] rfl
      refine va_calli (va_runV (As := [.int (nI (s0 + 2)), .int (nI (tw f s0))]) (rest := []) ⟨hx, hb, hml, hown, hts⟩ (m_Fo_isRising l dC dI cI cB cL cZ cR h sk b_y  (.ref fr) (sk_firstDependency) (.ref fcA) (sk_dependencies) (sk_hashes) (sk_byHash) (sk_leansOn) (sk_leantBy) (.ref ch) (sk_lines) (.int (nI P)) f (s0 + 2) (tw f s0) H.size (by omega)) (cwV 2 hts (xg_V gw_774 gw_776 (xg_p 6 (q := (⟨"PatchStore$Form", "isRising", "(II)Z"⟩, 1)) (by decide +kernel)) gw_7 gw_777) rfl rfl rfl (by decide +kernel) ⟨Nat.le_of_ble_eq_true rfl, Nat.le_of_ble_eq_true rfl⟩) ⟨xw_blind, va_recv hK hPc (ci := 2) (q0 := 0) rfl rfl, fun U hU hW => ⟨rfl, by rw [hU], by rw [hU]; exact hPc, va_K.moved hW.alike hK, hDc.weaken (fun _ _ _ _ => trivial)⟩⟩ rfl rfl hl.1 rfl (lv_room (Nat.le_of_ble_eq_true rfl)) d_Fo_isKept_75 ⟨Nat.le_of_ble_eq_true rfl, Nat.le_of_ble_eq_true rfl⟩) hS (fun q _ h => hFc q h) hFc (fun r9 u t H1 locs ht hvm hw hB hz1 hk1 hS => ?_)
      obtain ⟨hP1, hK1, hD1⟩ := hB
      rw [ht] at hP1
      obtain ⟨hP, hD⟩ := va_join (wr := [(fcA, .inl (cI, 502, .inl fcf)), (ch, .inr (1, [.ref cat, ch_patch, ch_file, ch_firstLine, ch_adds, ch_files])), (cat, .inl (cI, 38000, .inl ca)), (fr, .inl (cI, 502, .inl frf))]) (w1 := [(h, .inr (2, [.ref sk])), (sk, .inr (9, [.ref b_y, .ref fr, sk_firstDependency, .ref fcA, sk_dependencies, sk_hashes, sk_byHash, sk_leansOn, sk_leantBy, .ref ch, sk_lines, .int (nI P)])), (b_y, .inl (cB, 290000, .inl f))]) hP hD [0, 5, 6] [1, 2, 3, 4] rfl rfl (by decide) (by decide) hk1 hFc hP1 hD1
      generalize H1 = H at hP hS ⊢
      have hP : va_P (dC, dI) classes [(fcA, .inl (cI, 502, .inl fcf)), (ch, .inr (1, [.ref cat, ch_patch, ch_file, ch_firstLine, ch_adds, ch_files])), (cat, .inl (cI, 38000, .inl ca)), (fr, .inl (cI, 502, .inl frf)), (h, .inr (2, [.ref sk])), (sk, .inr (9, [.ref b_y, .ref fr, sk_firstDependency, .ref fcA, sk_dependencies, sk_hashes, sk_byHash, sk_leansOn, sk_leantBy, .ref ch, sk_lines, .int (nI P)])), (b_y, .inl (cB, 290000, .inl f))] H := hP
      have hD : va_D A [(fcA, .inl (cI, 502, .inl fcf)), (ch, .inr (1, [.ref cat, ch_patch, ch_file, ch_firstLine, ch_adds, ch_files])), (cat, .inl (cI, 38000, .inl ca)), (fr, .inl (cI, 502, .inl frf)), (h, .inr (2, [.ref sk])), (sk, .inr (9, [.ref b_y, .ref fr, sk_firstDependency, .ref fcA, sk_dependencies, sk_hashes, sk_byHash, sk_leansOn, sk_leantBy, .ref ch, sk_lines, .int (nI P)])), (b_y, .inl (cB, 290000, .inl f))] := hD
      rcases hw with ⟨rfl, hri⟩ | ⟨rfl, hri⟩
      · have hP : va_P (dC, dI) classes [(fcA, .inl (cI, 502, .inl fcf)), (ch, .inr (1, [.ref cat, ch_patch, ch_file, ch_firstLine, ch_adds, ch_files])), (cat, .inl (cI, 38000, .inl ca)), (fr, .inl (cI, 502, .inl frf)), (h, .inr (2, [.ref sk])), (sk, .inr (9, [.ref b_y, .ref fr, sk_firstDependency, .ref fcA, sk_dependencies, sk_hashes, sk_byHash, sk_leansOn, sk_leantBy, .ref ch, sk_lines, .int (nI P)])), (b_y, .inl (cB, 290000, .inl f))] H := hP
        have hD : va_D A [(fcA, .inl (cI, 502, .inl fcf)), (ch, .inr (1, [.ref cat, ch_patch, ch_file, ch_firstLine, ch_adds, ch_files])), (cat, .inl (cI, 38000, .inl ca)), (fr, .inl (cI, 502, .inl frf)), (h, .inr (2, [.ref sk])), (sk, .inr (9, [.ref b_y, .ref fr, sk_firstDependency, .ref fcA, sk_dependencies, sk_hashes, sk_byHash, sk_leansOn, sk_leantBy, .ref ch, sk_lines, .int (nI P)])), (b_y, .inl (cB, 290000, .inl f))] := hD
        refine lv_if_eq (tgt := 96) hx hb d_Fo_isKept_78 (by decide) (fun c_78 => absurd c_78 (by decide)) (fun _ => ?_)
        refine lv_aload_n hx hb d_Fo_isKept_81 rfl (lv_at hl 4 rfl) ?_
        refine lv_iload hx hb d_Fo_isKept_82 (lv_at hl 0 rfl) ?_
        refine lv_iload_n hx hb d_Fo_isKept_84 rfl (lv_at hl 2 rfl) ?_
        have hPc := hP.sub (ws' := [(h, .inr (2, [.ref sk])), (sk, .inr (9, [.ref b_y, .ref fr, sk_firstDependency, .ref fcA, sk_dependencies, sk_hashes, sk_byHash, sk_leansOn, sk_leantBy, .ref ch, sk_lines, .int (nI P)])), (b_y, .inl (cB, 290000, .inl f)), (fcA, .inl (cI, 502, .inl fcf)), (ch, .inr (1, [.ref cat, ch_patch, ch_file, ch_firstLine, ch_adds, ch_files])), (cat, .inl (cI, 38000, .inl ca))]) [4, 5, 6, 0, 1, 2] rfl
        have hDc := hD.sub (ws' := [(h, .inr (2, [.ref sk])), (sk, .inr (9, [.ref b_y, .ref fr, sk_firstDependency, .ref fcA, sk_dependencies, sk_hashes, sk_byHash, sk_leansOn, sk_leantBy, .ref ch, sk_lines, .int (nI P)])), (b_y, .inl (cB, 290000, .inl f)), (fcA, .inl (cI, 502, .inl fcf)), (ch, .inr (1, [.ref cat, ch_patch, ch_file, ch_firstLine, ch_adds, ch_files])), (cat, .inl (cI, 38000, .inl ca))]) [4, 5, 6, 0, 1, 2] (by decide) rfl
        have hFc := va_free (wc := [(h, .inr (2, [.ref sk])), (sk, .inr (9, [.ref b_y, .ref fr, sk_firstDependency, .ref fcA, sk_dependencies, sk_hashes, sk_byHash, sk_leansOn, sk_leantBy, .ref ch, sk_lines, .int (nI P)])), (b_y, .inl (cB, 290000, .inl f)), (fcA, .inl (cI, 502, .inl fcf)), (ch, .inr (1, [.ref cat, ch_patch, ch_file, ch_firstLine, ch_adds, ch_files])), (cat, .inl (cI, 38000, .inl ca))]) hD hS hA [4, 5, 6, 0, 1, 2] rfl
        refine va_calli (va_runV (As := [.int (nI (s0 + 2 + ((tw f s0) * 32))), .int (nI en)]) (rest := []) ⟨hx, hb, hml, hown, hts⟩ (m_Fo_changesEnd l dC dI cI cB cL cZ cR h sk b_y fcA ch cat  (.ref fr) (sk_firstDependency) (sk_dependencies) (sk_hashes) (sk_byHash) (sk_leansOn) (sk_leantBy) (sk_lines) (ch_patch) (ch_file) (ch_firstLine) (ch_adds) (ch_files) f ca fcf P F en (s0 + 2 + ((tw f s0) * 32)) H.size he (by omega) hP5 hF hF2 (fun i z1 z2 => hroom i z1 (by omega))) (cwV 2 hts (xg_V gw_781 gw_783 (xg_p 7 (q := (⟨"PatchStore$Form", "changesEnd", "(II)I"⟩, 1)) (by decide +kernel)) gw_7 gw_784) rfl rfl rfl (by decide +kernel) ⟨Nat.le_of_ble_eq_true rfl, Nat.le_of_ble_eq_true rfl⟩) ⟨xw_blind, va_recv hK hPc (ci := 2) (q0 := 0) rfl rfl, fun U hU hW => ⟨rfl, by rw [hU], by rw [hU]; exact hPc, va_K.moved hW.alike hK, hDc.weaken (fun _ _ _ _ => trivial)⟩⟩ rfl rfl hl.1 rfl (lv_room (Nat.le_of_ble_eq_true rfl)) d_Fo_isKept_85 ⟨Nat.le_of_ble_eq_true rfl, Nat.le_of_ble_eq_true rfl⟩) hS (fun q _ h => hFc q h) hFc (fun r9 uc t H1 locs ht hvm hw hB hz1 hk1 hS => ?_)
        obtain ⟨uc, uf⟩ := uc
        dsimp only at hw
        obtain ⟨hP1, hK1, hD1⟩ := hB
        rw [ht] at hP1
        obtain ⟨hP, hD⟩ := va_join (wr := [(fr, .inl (cI, 502, .inl frf))]) (w1 := [(h, .inr (2, [.ref sk])), (sk, .inr (9, [.ref b_y, .ref fr, sk_firstDependency, .ref fcA, sk_dependencies, sk_hashes, sk_byHash, sk_leansOn, sk_leantBy, .ref ch, sk_lines, .int (nI P)])), (b_y, .inl (cB, 290000, .inl f)), (fcA, .inl (cI, 502, .inl uf)), (ch, .inr (1, [.ref cat, ch_patch, ch_file, ch_firstLine, ch_adds, ch_files])), (cat, .inl (cI, 38000, .inl uc))]) hP hD [4, 5, 6, 0, 1, 2] [3] rfl rfl (by decide) (by decide) hk1 hFc hP1 hD1
        generalize H1 = H at hP hS ⊢
        have hP : va_P (dC, dI) classes [(fr, .inl (cI, 502, .inl frf)), (h, .inr (2, [.ref sk])), (sk, .inr (9, [.ref b_y, .ref fr, sk_firstDependency, .ref fcA, sk_dependencies, sk_hashes, sk_byHash, sk_leansOn, sk_leantBy, .ref ch, sk_lines, .int (nI P)])), (b_y, .inl (cB, 290000, .inl f)), (fcA, .inl (cI, 502, .inl uf)), (ch, .inr (1, [.ref cat, ch_patch, ch_file, ch_firstLine, ch_adds, ch_files])), (cat, .inl (cI, 38000, .inl uc))] H := hP
        have hD : va_D A [(fr, .inl (cI, 502, .inl frf)), (h, .inr (2, [.ref sk])), (sk, .inr (9, [.ref b_y, .ref fr, sk_firstDependency, .ref fcA, sk_dependencies, sk_hashes, sk_byHash, sk_leansOn, sk_leantBy, .ref ch, sk_lines, .int (nI P)])), (b_y, .inl (cB, 290000, .inl f)), (fcA, .inl (cI, 502, .inl uf)), (ch, .inr (1, [.ref cat, ch_patch, ch_file, ch_firstLine, ch_adds, ch_files])), (cat, .inl (cI, 38000, .inl uc))] := hD
        rcases hw with ⟨⟨hz1, hz2, rfl, hz3, hz4⟩ | ⟨rfl, hbad⟩, hf1, hf2⟩
        · have hP : va_P (dC, dI) classes [(fr, .inl (cI, 502, .inl frf)), (h, .inr (2, [.ref sk])), (sk, .inr (9, [.ref b_y, .ref fr, sk_firstDependency, .ref fcA, sk_dependencies, sk_hashes, sk_byHash, sk_leansOn, sk_leantBy, .ref ch, sk_lines, .int (nI P)])), (b_y, .inl (cB, 290000, .inl f)), (fcA, .inl (cI, 502, .inl uf)), (ch, .inr (1, [.ref cat, ch_patch, ch_file, ch_firstLine, ch_adds, ch_files])), (cat, .inl (cI, 38000, .inl uc))] H := hP
          have hD : va_D A [(fr, .inl (cI, 502, .inl frf)), (h, .inr (2, [.ref sk])), (sk, .inr (9, [.ref b_y, .ref fr, sk_firstDependency, .ref fcA, sk_dependencies, sk_hashes, sk_byHash, sk_leansOn, sk_leantBy, .ref ch, sk_lines, .int (nI P)])), (b_y, .inl (cB, 290000, .inl f)), (fcA, .inl (cI, 502, .inl uf)), (ch, .inr (1, [.ref cat, ch_patch, ch_file, ch_firstLine, ch_adds, ch_files])), (cat, .inl (cI, 38000, .inl uc))] := hD
          have hse := chain.top hz2 hz1
          refine lv_iload_n hx hb d_Fo_isKept_88 rfl (lv_at hl 2 rfl) ?_
          refine lv_icmp_ne (tgt := 96) hx hb d_Fo_isKept_89 (by decide) (fun c_89 => ?_) (fun c_89 => ?_)
          · have n_89 : ¬ (sS f en ((s0 + 2 + ((tw f s0) * 32)) + 2) (tw f (s0 + 2 + ((tw f s0) * 32)))) = en := fun z => c_89 ((nI_eq (a := (sS f en ((s0 + 2 + ((tw f s0) * 32)) + 2) (tw f (s0 + 2 + ((tw f s0) * 32))))) (b := en) (by omega) (by omega)).mpr z)
            have hno : ¬ kept f s0 en := by first | exact hno | exact fun z => n_89 z.2.2.2.2.2
            refine lv_iconst (v := 0) hx hb d_Fo_isKept_96 (by decide) ?_
            have hP := hP.sub (ws' := [(h, .inr (2, [.ref sk])), (sk, .inr (9, [.ref b_y, .ref fr, sk_firstDependency, .ref fcA, sk_dependencies, sk_hashes, sk_byHash, sk_leansOn, sk_leantBy, .ref ch, sk_lines, .int (nI P)])), (b_y, .inl (cB, 290000, .inl f)), (fcA, .inl (cI, 502, .inl uf)), (ch, .inr (1, [.ref cat, ch_patch, ch_file, ch_firstLine, ch_adds, ch_files])), (cat, .inl (cI, 38000, .inl uc)), (fr, .inl (cI, 502, .inl frf))]) [1, 2, 3, 4, 5, 6, 0] rfl
            have hD := hD.sub (ws' := [(h, .inr (2, [.ref sk])), (sk, .inr (9, [.ref b_y, .ref fr, sk_firstDependency, .ref fcA, sk_dependencies, sk_hashes, sk_byHash, sk_leansOn, sk_leantBy, .ref ch, sk_lines, .int (nI P)])), (b_y, .inl (cB, 290000, .inl f)), (fcA, .inl (cI, 502, .inl uf)), (ch, .inr (1, [.ref cat, ch_patch, ch_file, ch_firstLine, ch_adds, ch_files])), (cat, .inl (cI, 38000, .inl uc)), (fr, .inl (cI, 502, .inl frf))]) [1, 2, 3, 4, 5, 6, 0] (by decide) rfl
            rw [← hQe]
            exact W.zret (v := 0) hx hb hr nz_b0 (fun t ht hW => ⟨⟨_, (uc, uf), rfl, ⟨Or.inr ⟨rfl, hno⟩, hf1, hf2⟩, by rw [ht]; exact hP, va_K.moved hW.alike hK, hD⟩, hS.F ht⟩) hS.2.2 d_Fo_isKept_97
          · have n_89 : (sS f en ((s0 + 2 + ((tw f s0) * 32)) + 2) (tw f (s0 + 2 + ((tw f s0) * 32)))) = en := (nI_eq (a := (sS f en ((s0 + 2 + ((tw f s0) * 32)) + 2) (tw f (s0 + 2 + ((tw f s0) * 32))))) (b := en) (by omega) (by omega)).mp c_89
            refine lv_iconst (v := 1) hx hb d_Fo_isKept_92 (by decide) ?_
            refine lv_goto (tgt := 97) hx hb d_Fo_isKept_93 (by decide) ?_
            have hP := hP.sub (ws' := [(h, .inr (2, [.ref sk])), (sk, .inr (9, [.ref b_y, .ref fr, sk_firstDependency, .ref fcA, sk_dependencies, sk_hashes, sk_byHash, sk_leansOn, sk_leantBy, .ref ch, sk_lines, .int (nI P)])), (b_y, .inl (cB, 290000, .inl f)), (fcA, .inl (cI, 502, .inl uf)), (ch, .inr (1, [.ref cat, ch_patch, ch_file, ch_firstLine, ch_adds, ch_files])), (cat, .inl (cI, 38000, .inl uc)), (fr, .inl (cI, 502, .inl frf))]) [1, 2, 3, 4, 5, 6, 0] rfl
            have hD := hD.sub (ws' := [(h, .inr (2, [.ref sk])), (sk, .inr (9, [.ref b_y, .ref fr, sk_firstDependency, .ref fcA, sk_dependencies, sk_hashes, sk_byHash, sk_leansOn, sk_leantBy, .ref ch, sk_lines, .int (nI P)])), (b_y, .inl (cB, 290000, .inl f)), (fcA, .inl (cI, 502, .inl uf)), (ch, .inr (1, [.ref cat, ch_patch, ch_file, ch_firstLine, ch_adds, ch_files])), (cat, .inl (cI, 38000, .inl uc)), (fr, .inl (cI, 502, .inl frf))]) [1, 2, 3, 4, 5, 6, 0] (by decide) rfl
            rw [← hQe]
            exact W.zret (v := 1) hx hb hr nz_b1 (fun t ht hW => ⟨⟨_, (uc, uf), rfl, ⟨Or.inl ⟨rfl, ⟨n_38, by omega, hri, hz1, hz2, n_89⟩, hz3, hz4⟩, hf1, hf2⟩, by rw [ht]; exact hP, va_K.moved hW.alike hK, hD⟩, hS.F ht⟩) hS.2.2 d_Fo_isKept_97
        · have hP : va_P (dC, dI) classes [(fr, .inl (cI, 502, .inl frf)), (h, .inr (2, [.ref sk])), (sk, .inr (9, [.ref b_y, .ref fr, sk_firstDependency, .ref fcA, sk_dependencies, sk_hashes, sk_byHash, sk_leansOn, sk_leantBy, .ref ch, sk_lines, .int (nI P)])), (b_y, .inl (cB, 290000, .inl f)), (fcA, .inl (cI, 502, .inl uf)), (ch, .inr (1, [.ref cat, ch_patch, ch_file, ch_firstLine, ch_adds, ch_files])), (cat, .inl (cI, 38000, .inl uc))] H := hP
          have hD : va_D A [(fr, .inl (cI, 502, .inl frf)), (h, .inr (2, [.ref sk])), (sk, .inr (9, [.ref b_y, .ref fr, sk_firstDependency, .ref fcA, sk_dependencies, sk_hashes, sk_byHash, sk_leansOn, sk_leantBy, .ref ch, sk_lines, .int (nI P)])), (b_y, .inl (cB, 290000, .inl f)), (fcA, .inl (cI, 502, .inl uf)), (ch, .inr (1, [.ref cat, ch_patch, ch_file, ch_firstLine, ch_adds, ch_files])), (cat, .inl (cI, 38000, .inl uc))] := hD
          have hno : ¬ kept f s0 en := fun z => hbad ⟨z.2.2.2.1, z.2.2.2.2.1⟩
          refine lv_iload_n hx hb d_Fo_isKept_88 rfl (lv_at hl 2 rfl) ?_
          refine lv_icmp_ne (tgt := 96) hx hb d_Fo_isKept_89 (by decide) (fun _ => ?_) (fun c_89 => absurd c_89 (nI_nm1 (by omega)))
          refine lv_iconst (v := 0) hx hb d_Fo_isKept_96 (by decide) ?_
          have hP := hP.sub (ws' := [(h, .inr (2, [.ref sk])), (sk, .inr (9, [.ref b_y, .ref fr, sk_firstDependency, .ref fcA, sk_dependencies, sk_hashes, sk_byHash, sk_leansOn, sk_leantBy, .ref ch, sk_lines, .int (nI P)])), (b_y, .inl (cB, 290000, .inl f)), (fcA, .inl (cI, 502, .inl uf)), (ch, .inr (1, [.ref cat, ch_patch, ch_file, ch_firstLine, ch_adds, ch_files])), (cat, .inl (cI, 38000, .inl uc)), (fr, .inl (cI, 502, .inl frf))]) [1, 2, 3, 4, 5, 6, 0] rfl
          have hD := hD.sub (ws' := [(h, .inr (2, [.ref sk])), (sk, .inr (9, [.ref b_y, .ref fr, sk_firstDependency, .ref fcA, sk_dependencies, sk_hashes, sk_byHash, sk_leansOn, sk_leantBy, .ref ch, sk_lines, .int (nI P)])), (b_y, .inl (cB, 290000, .inl f)), (fcA, .inl (cI, 502, .inl uf)), (ch, .inr (1, [.ref cat, ch_patch, ch_file, ch_firstLine, ch_adds, ch_files])), (cat, .inl (cI, 38000, .inl uc)), (fr, .inl (cI, 502, .inl frf))]) [1, 2, 3, 4, 5, 6, 0] (by decide) rfl
          rw [← hQe]
          exact W.zret (v := 0) hx hb hr nz_b0 (fun t ht hW => ⟨⟨_, (uc, uf), rfl, ⟨Or.inr ⟨rfl, hno⟩, hf1, hf2⟩, by rw [ht]; exact hP, va_K.moved hW.alike hK, hD⟩, hS.F ht⟩) hS.2.2 d_Fo_isKept_97
      · have hP : va_P (dC, dI) classes [(fcA, .inl (cI, 502, .inl fcf)), (ch, .inr (1, [.ref cat, ch_patch, ch_file, ch_firstLine, ch_adds, ch_files])), (cat, .inl (cI, 38000, .inl ca)), (fr, .inl (cI, 502, .inl frf)), (h, .inr (2, [.ref sk])), (sk, .inr (9, [.ref b_y, .ref fr, sk_firstDependency, .ref fcA, sk_dependencies, sk_hashes, sk_byHash, sk_leansOn, sk_leantBy, .ref ch, sk_lines, .int (nI P)])), (b_y, .inl (cB, 290000, .inl f))] H := hP
        have hD : va_D A [(fcA, .inl (cI, 502, .inl fcf)), (ch, .inr (1, [.ref cat, ch_patch, ch_file, ch_firstLine, ch_adds, ch_files])), (cat, .inl (cI, 38000, .inl ca)), (fr, .inl (cI, 502, .inl frf)), (h, .inr (2, [.ref sk])), (sk, .inr (9, [.ref b_y, .ref fr, sk_firstDependency, .ref fcA, sk_dependencies, sk_hashes, sk_byHash, sk_leansOn, sk_leantBy, .ref ch, sk_lines, .int (nI P)])), (b_y, .inl (cB, 290000, .inl f))] := hD
        have hno : ¬ kept f s0 en := fun z => hri z.2.2.1
        refine lv_if_eq (tgt := 96) hx hb d_Fo_isKept_78 (by decide) (fun _ => ?_) (fun c_78 => absurd (by decide) c_78)
        refine lv_iconst (v := 0) hx hb d_Fo_isKept_96 (by decide) ?_
        have hP := hP.sub (ws' := [(h, .inr (2, [.ref sk])), (sk, .inr (9, [.ref b_y, .ref fr, sk_firstDependency, .ref fcA, sk_dependencies, sk_hashes, sk_byHash, sk_leansOn, sk_leantBy, .ref ch, sk_lines, .int (nI P)])), (b_y, .inl (cB, 290000, .inl f)), (fcA, .inl (cI, 502, .inl fcf)), (ch, .inr (1, [.ref cat, ch_patch, ch_file, ch_firstLine, ch_adds, ch_files])), (cat, .inl (cI, 38000, .inl ca)), (fr, .inl (cI, 502, .inl frf))]) [4, 5, 6, 0, 1, 2, 3] rfl
        have hD := hD.sub (ws' := [(h, .inr (2, [.ref sk])), (sk, .inr (9, [.ref b_y, .ref fr, sk_firstDependency, .ref fcA, sk_dependencies, sk_hashes, sk_byHash, sk_leansOn, sk_leantBy, .ref ch, sk_lines, .int (nI P)])), (b_y, .inl (cB, 290000, .inl f)), (fcA, .inl (cI, 502, .inl fcf)), (ch, .inr (1, [.ref cat, ch_patch, ch_file, ch_firstLine, ch_adds, ch_files])), (cat, .inl (cI, 38000, .inl ca)), (fr, .inl (cI, 502, .inl frf))]) [4, 5, 6, 0, 1, 2, 3] (by decide) rfl
        rw [← hQe]
        exact W.zret (v := 0) hx hb hr nz_b0 (fun t ht hW => ⟨⟨_, (ca, fcf), rfl, ⟨Or.inr ⟨rfl, hno⟩, fun _ _ => rfl, fun _ _ => rfl⟩, by rw [ht]; exact hP, va_K.moved hW.alike hK, hD⟩, hS.F ht⟩) hS.2.2 d_Fo_isKept_97
  · have n_38 : en < (s0 + 4) := Nat.lt_of_not_le (fun z => c_38 ((nI_leI (a := (s0 + 4)) (b := en) (by omega) (by omega)).mpr z))
    have hno : ¬ kept f s0 en := fun z => by have := z.1; omega
    refine lv_iconst (v := 0) hx hb d_Fo_isKept_41 (by decide) ?_
    rw [← hQe]
    exact W.zret (v := 0) hx hb hr nz_b0 (fun t ht hW => ⟨⟨_, (ca, fcf), rfl, ⟨Or.inr ⟨rfl, hno⟩, fun _ _ => rfl, fun _ _ => rfl⟩, by rw [ht]; exact hP, va_K.moved hW.alike hK, hD⟩, hS.F ht⟩) hS.2.2 d_Fo_isKept_42
