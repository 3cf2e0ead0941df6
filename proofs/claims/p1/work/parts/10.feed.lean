/-! 10.feed.lean.txt -/
theorem gw_1 : (Jvm.Cond.initialized "PatchStore") ∈ xg_1 := xg_s1 1 rfl rfl
theorem gw_45 : (Jvm.Cond.constant "PatchStore" (9 : Nat) (65536 : Int32)) ∈ xg_1 := xg_s1 45 rfl rfl
theorem gw_665 : (Jvm.Cond.methodLink "PatchStore" (83 : Nat) ({ cls := "PatchStore", name := "putOnTape", desc := "(I)V" } : Jvm.MethodName)) ∈ xg_1 := xg_s3 185 rfl rfl
theorem gw_667 : (Jvm.Cond.instanceMethod ({ cls := "PatchStore", name := "putOnTape", desc := "(I)V" } : Jvm.MethodName)) ∈ xg_1 := xg_s3 187 rfl rfl
theorem gw_668 : (Jvm.Cond.code ({ cls := "PatchStore", name := "putOnTape", desc := "(I)V" } : Jvm.MethodName) prog_1_method_20_code (2 : Nat) (Option.none : Option Jvm.ClassFile.FieldType)) ∈ xg_1 := xg_s3 188 rfl rfl
def y_PS_feed : MethodName := ⟨"PatchStore", "feed", "(IIIII)I"⟩
abbrev c_PS_feed : Cond := (Jvm.Cond.code ({ cls := "PatchStore", name := "feed", desc := "(IIIII)I" } : Jvm.MethodName) prog_1_method_2_code (6 : Nat) (Option.some Jvm.ClassFile.FieldType.int))
abbrev ws_PS_feed : List Cond := c_PS_feed :: xg_1
theorem d_PS_feed_0 : decode prog_1_method_2_code 0 = .ok (.aload_n 0, 1) := by decide +kernel
theorem d_PS_feed_1 : decode prog_1_method_2_code 1 = .ok (.getfield 76, 3) := by decide +kernel
theorem d_PS_feed_4 : decode prog_1_method_2_code 4 = .ok (.bipush 20, 2) := by decide +kernel
theorem d_PS_feed_6 : decode prog_1_method_2_code 6 = .ok (.iadd, 1) := by decide +kernel
theorem d_PS_feed_7 : decode prog_1_method_2_code 7 = .ok (.ldc 9, 2) := by decide +kernel
theorem d_PS_feed_9 : decode prog_1_method_2_code 9 = .ok (.if_icmp .le 11, 3) := by decide +kernel
theorem d_PS_feed_12 : decode prog_1_method_2_code 12 = .ok (.new 80, 3) := by decide +kernel
theorem d_PS_feed_15 : decode prog_1_method_2_code 15 = .ok (.dup, 1) := by decide +kernel
theorem d_PS_feed_16 : decode prog_1_method_2_code 16 = .ok (.invokespecial 82, 3) := by decide +kernel
theorem d_PS_feed_19 : decode prog_1_method_2_code 19 = .ok (.athrow, 1) := by decide +kernel
theorem d_PS_feed_20 : decode prog_1_method_2_code 20 = .ok (.aload_n 0, 1) := by decide +kernel
theorem d_PS_feed_21 : decode prog_1_method_2_code 21 = .ok (.iload_n 1, 1) := by decide +kernel
theorem d_PS_feed_22 : decode prog_1_method_2_code 22 = .ok (.invokevirtual 83, 3) := by decide +kernel
theorem d_PS_feed_25 : decode prog_1_method_2_code 25 = .ok (.aload_n 0, 1) := by decide +kernel
theorem d_PS_feed_26 : decode prog_1_method_2_code 26 = .ok (.iload_n 2, 1) := by decide +kernel
theorem d_PS_feed_27 : decode prog_1_method_2_code 27 = .ok (.invokevirtual 83, 3) := by decide +kernel
theorem d_PS_feed_30 : decode prog_1_method_2_code 30 = .ok (.aload_n 0, 1) := by decide +kernel
theorem d_PS_feed_31 : decode prog_1_method_2_code 31 = .ok (.iload_n 3, 1) := by decide +kernel
theorem d_PS_feed_32 : decode prog_1_method_2_code 32 = .ok (.invokevirtual 83, 3) := by decide +kernel
theorem d_PS_feed_35 : decode prog_1_method_2_code 35 = .ok (.aload_n 0, 1) := by decide +kernel
theorem d_PS_feed_36 : decode prog_1_method_2_code 36 = .ok (.iload 4, 2) := by decide +kernel
theorem d_PS_feed_38 : decode prog_1_method_2_code 38 = .ok (.invokevirtual 83, 3) := by decide +kernel
theorem d_PS_feed_41 : decode prog_1_method_2_code 41 = .ok (.aload_n 0, 1) := by decide +kernel
theorem d_PS_feed_42 : decode prog_1_method_2_code 42 = .ok (.iload 5, 2) := by decide +kernel
theorem d_PS_feed_44 : decode prog_1_method_2_code 44 = .ok (.invokevirtual 83, 3) := by decide +kernel
theorem d_PS_feed_47 : decode prog_1_method_2_code 47 = .ok (.aload_n 0, 1) := by decide +kernel
theorem d_PS_feed_48 : decode prog_1_method_2_code 48 = .ok (.getfield 76, 3) := by decide +kernel
theorem d_PS_feed_51 : decode prog_1_method_2_code 51 = .ok (.ireturn, 1) := by decide +kernel
theorem xg_V {own : String} {idx : Nat} {C : String} {y : MethodName} {c : Cond} (h1 : Cond.methodLink own idx y ∈ xg_1) (h2 : Cond.instanceMethod y ∈ xg_1) (h3 : Cond.selects C y y ∈ xg_1) (h4 : Cond.initialized C ∈ xg_1) (h5 : c ∈ xg_1) : GoodIn xg_1 (wsV own idx C y (c :: xg_1)) := by
  intro w hw
  rcases List.mem_append.mp hw with h | h
  · have : w ∈ xg_1 := by
      simp only [List.mem_cons, List.not_mem_nil, or_false] at h
      rcases h with rfl | rfl | rfl | rfl
      · exact h1
      · exact h2
      · exact h3
      · exact h4
    exact ⟨this, good_of_word (xg_good this)⟩
  · exact xg_in h5 w h
theorem xg_S {own : String} {idx : Nat} {y : MethodName} {c : Cond} (h1 : Cond.methodLink own idx y ∈ xg_1) (h2 : Cond.static y ∈ xg_1) (h4 : Cond.initialized own ∈ xg_1) (h5 : c ∈ xg_1) : GoodIn xg_1 (wsS own idx y (c :: xg_1)) := by
  intro w hw
  rcases List.mem_append.mp hw with h | h
  · have : w ∈ xg_1 := by
      simp only [List.mem_cons, List.not_mem_nil, or_false] at h
      rcases h with rfl | rfl | rfl
      · exact h1
      · exact h2
      · exact h4
    exact ⟨this, good_of_word (xg_good this)⟩
  · exact xg_in h5 w h
def ps_put20 (f : Nat → Int32) (L : Nat) (a b c d e : Int32) : Nat → Int32 := ps_put4 (ps_put4 (ps_put4 (ps_put4 (ps_put4 f L a) (L + 4) b) (L + 8) c) (L + 12) d) (L + 16) e
set_option maxHeartbeats 4000000 in
set_option maxRecDepth 100000 in
/-- feed -/
theorem m_PS_feed (l : Launch) (dC : Nat → ClassId) (dI : Nat → Nat → Nat) (cI cB cL cZ cR : ClassId) (hlt : xl_T l) (h tp : Nat) (v1 v2 v3 v4 v5 v6 v7 v8 : Value) (L : Nat) (flt : Int32) (f : Nat → Int32) (p0 p1 p2 p3 p4 : Int32) (sz : Nat) (hL : L ≤ 65536) : xc_Met l y_PS_feed ws_PS_feed ({ frames := 8, cells := 1, slots := 6, locals := 200 }) (xw_Px dC dI [(cI, .int), (cB, .byte), (cL, .long), (cZ, .boolean), (cR, .object "PatchStore$Repository")] [.ref h, .int p0, .int p1, .int p2, .int p3, .int p4] [(h, .inr (0, [.ref tp, v1, v2, v3, v4, v5, v6, v7, v8, .int (nI L), .int flt])), (tp, .inl (cB, 65536, .inl f))] sz) (xc_Q (S := Nat × (Nat → Int32)) (fun v u => L + 20 ≤ 65536 ∧ v = some (.int (nI (L + 20))) ∧ u = (L + 20, ps_put20 f L p0 p1 p2 p3 p4)) (fun C u => 65536 < L + 20 ∧ C = "java/lang/IllegalStateException" ∧ u = (L, f)) (fun u t => xw_B dC dI [(cI, .int), (cB, .byte), (cL, .long), (cZ, .boolean), (cR, .object "PatchStore$Repository")] (va_A [(h, .inr (0, [.ref tp, v1, v2, v3, v4, v5, v6, v7, v8, .int (nI L), .int flt])), (tp, .inl (cB, 65536, .inl f))] sz) [(h, .inr (0, [.ref tp, v1, v2, v3, v4, v5, v6, v7, v8, .int (nI u.1), .int flt])), (tp, .inl (cB, 65536, .inl u.2))] t) (va_A [(h, .inr (0, [.ref tp, v1, v2, v3, v4, v5, v6, v7, v8, .int (nI L), .int flt])), (tp, .inl (cB, 65536, .inl f))] sz)) 1 6 (va_A [(h, .inr (0, [.ref tp, v1, v2, v3, v4, v5, v6, v7, v8, .int (nI L), .int flt])), (tp, .inl (cB, 65536, .inl f))] sz) := by
  refine xc_ofW (cc := prog_1_method_2_code) (maxL := 6) (ret := (Option.some Jvm.ClassFile.FieldType.int)) (by decide) rfl ?_
  intro p e s m args below meth c s₁ B hml hno hv
  obtain ⟨rfl, hsz, hP, hK, hD0, hN, hTh⟩ := hv
  have htr : e.platform.stackTraces = false := hlt e B.admits
  have hx := B.exec
  have hb := B.bytes
  have hr := B.returns
  have hts0 := atoms_spec (ws := ws_PS_feed) B.pre
  have hts : ∀ w ∈ xg_1, w.before _ s = true := fun w h => hts0 w (List.mem_cons_of_mem _ h)
  have hown : s.vm.findClass "PatchStore" = some m.cls := findClass_of_methodNamed B.named
  have hlocks := B.notSynchronized
  subst hsz
  have hD := hD0.self (sz := s.heap.size)
  generalize hAe : va_A [(h, .inr (0, [.ref tp, v1, v2, v3, v4, v5, v6, v7, v8, .int (nI L), .int flt])), (tp, .inl (cB, 65536, .inl f))] s.heap.size = A at hD hTh ⊢
  have hA : ∀ q : Nat, s.heap.size ≤ q → A q := fun q h => by rw [← hAe]; exact Or.inr h
  have hS : va_S A s.heap s.heap [] := va_S.rf
  have hl := lv_entry ([.ref h, .int p0, .int p1, .int p2, .int p3, .int p4]) (n := 6) (Nat.le_of_ble_eq_true rfl)
  rw [lg_entry_eq]
  generalize (lg_sl ([.ref h, .int p0, .int p1, .int p2, .int p3, .int p4]) ++ List.replicate (6 - (lg_sl ([.ref h, .int p0, .int p1, .int p2, .int p3, .int p4])).length) Slot.unset).toArray = ls at hl ⊢
  have hl : lv_has ls 6 [(0, .ref h), (1, .int p0), (2, .int p1), (3, .int p2), (4, .int p3), (5, .int p4)] := hl
  refine lv_aload_n hx hb d_PS_feed_0 rfl (lv_at hl 0 rfl) ?_
  refine va_get (D := (dC, dI)) (ci := 0) (v := .int (nI L)) (C := R_PS) (T := F_PS) (N := 11) hx hb hts i_PS hown hK hP 0 rfl rfl 9 (by decide) (hts _ gw_557) (fun _ h9 => h9) rfl d_PS_feed_1 ?_
  refine lv_bipush (v := 20) hx hb d_PS_feed_4 (by decide) ?_
  refine lv_iadd hx hb d_PS_feed_6 ?_
  refine lv_topi (fun x_1 ex_1 => ?_)
  obtain rfl : x_1 = nI (L + 20) := by rw [ex_1]; first | done | (exact nI_add L 20)
  refine lv_ldc (own := "PatchStore") hx hb hown (hts _ gw_45) d_PS_feed_7 ?_
  refine lv_icmp_le (tgt := 20) hx hb d_PS_feed_9 (by decide) (fun c_9 => ?_) (fun c_9 => ?_)
  · have hc : L + 20 ≤ 65536 := (nI_leI (a := L + 20) (b := 65536) (by omega) (by omega)).mp c_9
    refine lv_aload_n hx hb d_PS_feed_20 rfl (lv_at hl 0 rfl) ?_
    refine lv_iload_n hx hb d_PS_feed_21 rfl (lv_at hl 1 rfl) ?_
    have hPc := hP.sub (ws' := [(h, .inr (0, [.ref tp, v1, v2, v3, v4, v5, v6, v7, v8, .int (nI L), .int flt])), (tp, .inl (cB, 65536, .inl f))]) [0, 1] rfl
    have hDc := hD.sub (ws' := [(h, .inr (0, [.ref tp, v1, v2, v3, v4, v5, v6, v7, v8, .int (nI L), .int flt])), (tp, .inl (cB, 65536, .inl f))]) [0, 1] (by decide) rfl
    have hFc := va_free (wc := [(h, .inr (0, [.ref tp, v1, v2, v3, v4, v5, v6, v7, v8, .int (nI L), .int flt])), (tp, .inl (cB, 65536, .inl f))]) hD hS hA [0, 1] rfl
    refine va_callv (va_runV (As := [.int p0]) (rest := []) ⟨hx, hb, hml, hown, hts⟩ (m_PS_putOnTape l dC dI cI cB cL cZ cR h tp v1 v2 v3 v4 v5 v6 v7 v8 L flt f p0 s.heap.size (by omega)) (cwV 1 hts (xg_V gw_665 gw_667 (xg_p 1 (q := (⟨"PatchStore", "putOnTape", "(I)V"⟩, 11)) (by decide +kernel)) gw_1 gw_668) rfl rfl rfl (by decide +kernel) ⟨Nat.le_of_ble_eq_true rfl, Nat.le_of_ble_eq_true rfl⟩) ⟨xw_blind, va_recv hK hPc (ci := 0) (q0 := 0) rfl rfl, fun U hU hW => ⟨rfl, by rw [hU], by rw [hU]; exact hPc, va_K.moved hW.alike hK, hDc.weaken (fun _ _ _ _ => trivial)⟩⟩ rfl rfl hl.1 rfl (lv_room (Nat.le_of_ble_eq_true rfl)) d_PS_feed_22 ⟨Nat.le_of_ble_eq_true rfl, Nat.le_of_ble_eq_true rfl⟩) hS (fun q _ h => hFc q h) hFc (fun u t H1 locs ht hvm hw hB hz1 hk1 hS => ?_)
    obtain ⟨hP1, hK1, hD1⟩ := hB
    rw [ht] at hP1
    obtain ⟨hP, hD⟩ := va_join (wr := []) (w1 := [(h, .inr (0, [.ref tp, v1, v2, v3, v4, v5, v6, v7, v8, .int (nI (L + 4)), .int flt])), (tp, .inl (cB, 65536, .inl (ps_put4 f L p0)))]) hP hD [0, 1] [] rfl rfl (by decide) (by decide) hk1 hFc hP1 hD1
    generalize H1 = H at hP hS ⊢
    have hP : va_P (dC, dI) classes [(h, .inr (0, [.ref tp, v1, v2, v3, v4, v5, v6, v7, v8, .int (nI (L + 4)), .int flt])), (tp, .inl (cB, 65536, .inl (ps_put4 f L p0)))] H := hP
    have hD : va_D A [(h, .inr (0, [.ref tp, v1, v2, v3, v4, v5, v6, v7, v8, .int (nI (L + 4)), .int flt])), (tp, .inl (cB, 65536, .inl (ps_put4 f L p0)))] := hD
    refine lv_aload_n hx hb d_PS_feed_25 rfl (lv_at hl 0 rfl) ?_
    refine lv_iload_n hx hb d_PS_feed_26 rfl (lv_at hl 2 rfl) ?_
    have hPc := hP.sub (ws' := [(h, .inr (0, [.ref tp, v1, v2, v3, v4, v5, v6, v7, v8, .int (nI (L + 4)), .int flt])), (tp, .inl (cB, 65536, .inl (ps_put4 f L p0)))]) [0, 1] rfl
    have hDc := hD.sub (ws' := [(h, .inr (0, [.ref tp, v1, v2, v3, v4, v5, v6, v7, v8, .int (nI (L + 4)), .int flt])), (tp, .inl (cB, 65536, .inl (ps_put4 f L p0)))]) [0, 1] (by decide) rfl
    have hFc := va_free (wc := [(h, .inr (0, [.ref tp, v1, v2, v3, v4, v5, v6, v7, v8, .int (nI (L + 4)), .int flt])), (tp, .inl (cB, 65536, .inl (ps_put4 f L p0)))]) hD hS hA [0, 1] rfl
    refine va_callv (va_runV (As := [.int p1]) (rest := []) ⟨hx, hb, hml, hown, hts⟩ (m_PS_putOnTape l dC dI cI cB cL cZ cR h tp v1 v2 v3 v4 v5 v6 v7 v8 (L + 4) flt (ps_put4 f L p0) p1 H.size (by omega)) (cwV 1 hts (xg_V gw_665 gw_667 (xg_p 1 (q := (⟨"PatchStore", "putOnTape", "(I)V"⟩, 11)) (by decide +kernel)) gw_1 gw_668) rfl rfl rfl (by decide +kernel) ⟨Nat.le_of_ble_eq_true rfl, Nat.le_of_ble_eq_true rfl⟩) ⟨xw_blind, va_recv hK hPc (ci := 0) (q0 := 0) rfl rfl, fun U hU hW => ⟨rfl, by rw [hU], by rw [hU]; exact hPc, va_K.moved hW.alike hK, hDc.weaken (fun _ _ _ _ => trivial)⟩⟩ rfl rfl hl.1 rfl (lv_room (Nat.le_of_ble_eq_true rfl)) d_PS_feed_27 ⟨Nat.le_of_ble_eq_true rfl, Nat.le_of_ble_eq_true rfl⟩) hS (fun q _ h => hFc q h) hFc (fun u t H1 locs ht hvm hw hB hz1 hk1 hS => ?_)
    obtain ⟨hP1, hK1, hD1⟩ := hB
    rw [ht] at hP1
    obtain ⟨hP, hD⟩ := va_join (wr := []) (w1 := [(h, .inr (0, [.ref tp, v1, v2, v3, v4, v5, v6, v7, v8, .int (nI (L + 8)), .int flt])), (tp, .inl (cB, 65536, .inl (ps_put4 (ps_put4 f L p0) (L + 4) p1)))]) hP hD [0, 1] [] rfl rfl (by decide) (by decide) hk1 hFc hP1 hD1
    generalize H1 = H at hP hS ⊢
    have hP : va_P (dC, dI) classes [(h, .inr (0, [.ref tp, v1, v2, v3, v4, v5, v6, v7, v8, .int (nI (L + 8)), .int flt])), (tp, .inl (cB, 65536, .inl (ps_put4 (ps_put4 f L p0) (L + 4) p1)))] H := hP
    have hD : va_D A [(h, .inr (0, [.ref tp, v1, v2, v3, v4, v5, v6, v7, v8, .int (nI (L + 8)), .int flt])), (tp, .inl (cB, 65536, .inl (ps_put4 (ps_put4 f L p0) (L + 4) p1)))] := hD
    refine lv_aload_n hx hb d_PS_feed_30 rfl (lv_at hl 0 rfl) ?_
    refine lv_iload_n hx hb d_PS_feed_31 rfl (lv_at hl 3 rfl) ?_
    have hPc := hP.sub (ws' := [(h, .inr (0, [.ref tp, v1, v2, v3, v4, v5, v6, v7, v8, .int (nI (L + 8)), .int flt])), (tp, .inl (cB, 65536, .inl (ps_put4 (ps_put4 f L p0) (L + 4) p1)))]) [0, 1] rfl
    have hDc := hD.sub (ws' := [(h, .inr (0, [.ref tp, v1, v2, v3, v4, v5, v6, v7, v8, .int (nI (L + 8)), .int flt])), (tp, .inl (cB, 65536, .inl (ps_put4 (ps_put4 f L p0) (L + 4) p1)))]) [0, 1] (by decide) rfl
    have hFc := va_free (wc := [(h, .inr (0, [.ref tp, v1, v2, v3, v4, v5, v6, v7, v8, .int (nI (L + 8)), .int flt])), (tp, .inl (cB, 65536, .inl (ps_put4 (ps_put4 f L p0) (L + 4) p1)))]) hD hS hA [0, 1] rfl
    refine va_callv (va_runV (As := [.int p2]) (rest := []) ⟨hx, hb, hml, hown, hts⟩ (m_PS_putOnTape l dC dI cI cB cL cZ cR h tp v1 v2 v3 v4 v5 v6 v7 v8 (L + 8) flt (ps_put4 (ps_put4 f L p0) (L + 4) p1) p2 H.size (by omega)) (cwV 1 hts (xg_V gw_665 gw_667 (xg_p 1 (q := (⟨"PatchStore", "putOnTape", "(I)V"⟩, 11)) (by decide +kernel)) gw_1 gw_668) rfl rfl rfl (by decide +kernel) ⟨Nat.le_of_ble_eq_true rfl, Nat.le_of_ble_eq_true rfl⟩) ⟨xw_blind, va_recv hK hPc (ci := 0) (q0 := 0) rfl rfl, fun U hU hW => ⟨rfl, by rw [hU], by rw [hU]; exact hPc, va_K.moved hW.alike hK, hDc.weaken (fun _ _ _ _ => trivial)⟩⟩ rfl rfl hl.1 rfl (lv_room (Nat.le_of_ble_eq_true rfl)) d_PS_feed_32 ⟨Nat.le_of_ble_eq_true rfl, Nat.le_of_ble_eq_true rfl⟩) hS (fun q _ h => hFc q h) hFc (fun u t H1 locs ht hvm hw hB hz1 hk1 hS => ?_)
    obtain ⟨hP1, hK1, hD1⟩ := hB
    rw [ht] at hP1
    obtain ⟨hP, hD⟩ := va_join (wr := []) (w1 := [(h, .inr (0, [.ref tp, v1, v2, v3, v4, v5, v6, v7, v8, .int (nI (L + 12)), .int flt])), (tp, .inl (cB, 65536, .inl (ps_put4 (ps_put4 (ps_put4 f L p0) (L + 4) p1) (L + 8) p2)))]) hP hD [0, 1] [] rfl rfl (by decide) (by decide) hk1 hFc hP1 hD1
    generalize H1 = H at hP hS ⊢
    have hP : va_P (dC, dI) classes [(h, .inr (0, [.ref tp, v1, v2, v3, v4, v5, v6, v7, v8, .int (nI (L + 12)), .int flt])), (tp, .inl (cB, 65536, .inl (ps_put4 (ps_put4 (ps_put4 f L p0) (L + 4) p1) (L + 8) p2)))] H := hP
    have hD : va_D A [(h, .inr (0, [.ref tp, v1, v2, v3, v4, v5, v6, v7, v8, .int (nI (L + 12)), .int flt])), (tp, .inl (cB, 65536, .inl (ps_put4 (ps_put4 (ps_put4 f L p0) (L + 4) p1) (L + 8) p2)))] := hD
    refine lv_aload_n hx hb d_PS_feed_35 rfl (lv_at hl 0 rfl) ?_
    refine lv_iload hx hb d_PS_feed_36 (lv_at hl 4 rfl) ?_
    have hPc := hP.sub (ws' := [(h, .inr (0, [.ref tp, v1, v2, v3, v4, v5, v6, v7, v8, .int (nI (L + 12)), .int flt])), (tp, .inl (cB, 65536, .inl (ps_put4 (ps_put4 (ps_put4 f L p0) (L + 4) p1) (L + 8) p2)))]) [0, 1] rfl
    have hDc := hD.sub (ws' := [(h, .inr (0, [.ref tp, v1, v2, v3, v4, v5, v6, v7, v8, .int (nI (L + 12)), .int flt])), (tp, .inl (cB, 65536, .inl (ps_put4 (ps_put4 (ps_put4 f L p0) (L + 4) p1) (L + 8) p2)))]) [0, 1] (by decide) rfl
    have hFc := va_free (wc := [(h, .inr (0, [.ref tp, v1, v2, v3, v4, v5, v6, v7, v8, .int (nI (L + 12)), .int flt])), (tp, .inl (cB, 65536, .inl (ps_put4 (ps_put4 (ps_put4 f L p0) (L + 4) p1) (L + 8) p2)))]) hD hS hA [0, 1] rfl
    refine va_callv (va_runV (As := [.int p3]) (rest := []) ⟨hx, hb, hml, hown, hts⟩ (m_PS_putOnTape l dC dI cI cB cL cZ cR h tp v1 v2 v3 v4 v5 v6 v7 v8 (L + 12) flt (ps_put4 (ps_put4 (ps_put4 f L p0) (L + 4) p1) (L + 8) p2) p3 H.size (by omega)) (cwV 1 hts (xg_V gw_665 gw_667 (xg_p 1 (q := (⟨"PatchStore", "putOnTape", "(I)V"⟩, 11)) (by decide +kernel)) gw_1 gw_668) rfl rfl rfl (by decide +kernel) ⟨Nat.le_of_ble_eq_true rfl, Nat.le_of_ble_eq_true rfl⟩) ⟨xw_blind, va_recv hK hPc (ci := 0) (q0 := 0) rfl rfl, fun U hU hW => ⟨rfl, by rw [hU], by rw [hU]; exact hPc, va_K.moved hW.alike hK, hDc.weaken (fun _ _ _ _ => trivial)⟩⟩ rfl rfl hl.1 rfl (lv_room (Nat.le_of_ble_eq_true rfl)) d_PS_feed_38 ⟨Nat.le_of_ble_eq_true rfl, Nat.le_of_ble_eq_true rfl⟩) hS (fun q _ h => hFc q h) hFc (fun u t H1 locs ht hvm hw hB hz1 hk1 hS => ?_)
    obtain ⟨hP1, hK1, hD1⟩ := hB
    rw [ht] at hP1
    obtain ⟨hP, hD⟩ := va_join (wr := []) (w1 := [(h, .inr (0, [.ref tp, v1, v2, v3, v4, v5, v6, v7, v8, .int (nI (L + 16)), .int flt])), (tp, .inl (cB, 65536, .inl (ps_put4 (ps_put4 (ps_put4 (ps_put4 f L p0) (L + 4) p1) (L + 8) p2) (L + 12) p3)))]) hP hD [0, 1] [] rfl rfl (by decide) (by decide) hk1 hFc hP1 hD1
    generalize H1 = H at hP hS ⊢
    have hP : va_P (dC, dI) classes [(h, .inr (0, [.ref tp, v1, v2, v3, v4, v5, v6, v7, v8, .int (nI (L + 16)), .int flt])), (tp, .inl (cB, 65536, .inl (ps_put4 (ps_put4 (ps_put4 (ps_put4 f L p0) (L + 4) p1) (L + 8) p2) (L + 12) p3)))] H := hP
    have hD : va_D A [(h, .inr (0, [.ref tp, v1, v2, v3, v4, v5, v6, v7, v8, .int (nI (L + 16)), .int flt])), (tp, .inl (cB, 65536, .inl (ps_put4 (ps_put4 (ps_put4 (ps_put4 f L p0) (L + 4) p1) (L + 8) p2) (L + 12) p3)))] := hD
    refine lv_aload_n hx hb d_PS_feed_41 rfl (lv_at hl 0 rfl) ?_
    refine lv_iload hx hb d_PS_feed_42 (lv_at hl 5 rfl) ?_
    have hPc := hP.sub (ws' := [(h, .inr (0, [.ref tp, v1, v2, v3, v4, v5, v6, v7, v8, .int (nI (L + 16)), .int flt])), (tp, .inl (cB, 65536, .inl (ps_put4 (ps_put4 (ps_put4 (ps_put4 f L p0) (L + 4) p1) (L + 8) p2) (L + 12) p3)))]) [0, 1] rfl
    have hDc := hD.sub (ws' := [(h, .inr (0, [.ref tp, v1, v2, v3, v4, v5, v6, v7, v8, .int (nI (L + 16)), .int flt])), (tp, .inl (cB, 65536, .inl (ps_put4 (ps_put4 (ps_put4 (ps_put4 f L p0) (L + 4) p1) (L + 8) p2) (L + 12) p3)))]) [0, 1] (by decide) rfl
    have hFc := va_free (wc := [(h, .inr (0, [.ref tp, v1, v2, v3, v4, v5, v6, v7, v8, .int (nI (L + 16)), .int flt])), (tp, .inl (cB, 65536, .inl (ps_put4 (ps_put4 (ps_put4 (ps_put4 f L p0) (L + 4) p1) (L + 8) p2) (L + 12) p3)))]) hD hS hA [0, 1] rfl
    refine va_callv (va_runV (As := [.int p4]) (rest := []) ⟨hx, hb, hml, hown, hts⟩ (m_PS_putOnTape l dC dI cI cB cL cZ cR h tp v1 v2 v3 v4 v5 v6 v7 v8 (L + 16) flt (ps_put4 (ps_put4 (ps_put4 (ps_put4 f L p0) (L + 4) p1) (L + 8) p2) (L + 12) p3) p4 H.size (by omega)) (cwV 1 hts (xg_V gw_665 gw_667 (xg_p 1 (q := (⟨"PatchStore", "putOnTape", "(I)V"⟩, 11)) (by decide +kernel)) gw_1 gw_668) rfl rfl rfl (by decide +kernel) ⟨Nat.le_of_ble_eq_true rfl, Nat.le_of_ble_eq_true rfl⟩) ⟨xw_blind, va_recv hK hPc (ci := 0) (q0 := 0) rfl rfl, fun U hU hW => ⟨rfl, by rw [hU], by rw [hU]; exact hPc, va_K.moved hW.alike hK, hDc.weaken (fun _ _ _ _ => trivial)⟩⟩ rfl rfl hl.1 rfl (lv_room (Nat.le_of_ble_eq_true rfl)) d_PS_feed_44 ⟨Nat.le_of_ble_eq_true rfl, Nat.le_of_ble_eq_true rfl⟩) hS (fun q _ h => hFc q h) hFc (fun u t H1 locs ht hvm hw hB hz1 hk1 hS => ?_)
    obtain ⟨hP1, hK1, hD1⟩ := hB
    rw [ht] at hP1
    obtain ⟨hP, hD⟩ := va_join (wr := []) (w1 := [(h, .inr (0, [.ref tp, v1, v2, v3, v4, v5, v6, v7, v8, .int (nI (L + 20)), .int flt])), (tp, .inl (cB, 65536, .inl (ps_put4 (ps_put4 (ps_put4 (ps_put4 (ps_put4 f L p0) (L + 4) p1) (L + 8) p2) (L + 12) p3) (L + 16) p4)))]) hP hD [0, 1] [] rfl rfl (by decide) (by decide) hk1 hFc hP1 hD1
    generalize H1 = H at hP hS ⊢
    have hP : va_P (dC, dI) classes [(h, .inr (0, [.ref tp, v1, v2, v3, v4, v5, v6, v7, v8, .int (nI (L + 20)), .int flt])), (tp, .inl (cB, 65536, .inl (ps_put4 (ps_put4 (ps_put4 (ps_put4 (ps_put4 f L p0) (L + 4) p1) (L + 8) p2) (L + 12) p3) (L + 16) p4)))] H := hP
    have hD : va_D A [(h, .inr (0, [.ref tp, v1, v2, v3, v4, v5, v6, v7, v8, .int (nI (L + 20)), .int flt])), (tp, .inl (cB, 65536, .inl (ps_put4 (ps_put4 (ps_put4 (ps_put4 (ps_put4 f L p0) (L + 4) p1) (L + 8) p2) (L + 12) p3) (L + 16) p4)))] := hD
    refine lv_aload_n hx hb d_PS_feed_47 rfl (lv_at hl 0 rfl) ?_
    refine va_get (D := (dC, dI)) (ci := 0) (v := .int (nI (L + 20))) (C := R_PS) (T := F_PS) (N := 11) hx hb hts i_PS hown hK hP 0 rfl rfl 9 (by decide) (hts _ gw_557) (fun _ h9 => h9) rfl d_PS_feed_48 ?_
    refine W.widen (k := 1) (n := 6) (Nat.le_of_ble_eq_true rfl) (Nat.le_of_ble_eq_true rfl) ?_
    exact xc_ret (W.iret (v := nI (L + 20)) hx hb hr (fun t ht hW => ⟨Or.inl ⟨_, (L + 20, ps_put20 f L p0 p1 p2 p3 p4), rfl, ⟨hc, rfl, rfl⟩, (by rw [ht]; exact hP), va_K.moved hW.alike hK, hD⟩, hS.F ht⟩) hS.2.2 d_PS_feed_51)
  · have hc : ¬ L + 20 ≤ 65536 := fun z => c_9 ((nI_leI (a := L + 20) (b := 65536) (by omega) (by omega)).mpr z)
    refine xc_thrownew (A := A) (own := "PatchStore") (C := "java/lang/IllegalStateException") (names := ["java/lang/RuntimeException", "java/lang/Exception"]) (i1 := 80) (i2 := 82) hx hb hml hl.1 hown hlocks hno htr (by decide +kernel) (by decide +kernel) (tw_PS_80 hts hN) (tr_PS_80) (ti_PS_80) (hTh.1.kept (fun a h1 h2 => hS.2.1 a h1 h2)) d_PS_feed_12 d_PS_feed_15 d_PS_feed_16 d_PS_feed_19 (Nat.le_of_ble_eq_true rfl) (Nat.le_of_ble_eq_true rfl) (Nat.le_of_ble_eq_true rfl) (Nat.le_of_ble_eq_true rfl) (fun x9 t9 H9 e1 e2 e3 hW9 hex => ⟨Or.inr ⟨x9, "java/lang/IllegalStateException", (L, f), rfl, ⟨by omega, rfl, rfl⟩, hex, (by rw [e1]; exact hP.kept (fun k q hq => e3 q.1 ((hP k q hq).lt))), va_K.moved hW9.alike hK, hD⟩, (by rw [e1]; exact Nat.le_trans hS.1 e2), fun q h1 h2 => by rw [e1]; exact (e3 q (Nat.lt_of_lt_of_le h1 hS.1)).trans (hS.2.1 q h1 h2)⟩) hS.2.2
