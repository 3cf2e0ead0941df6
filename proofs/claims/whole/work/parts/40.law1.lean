/-! 40.law1.lean.txt -/
theorem gw_695 : (Jvm.Cond.classLink "PatchStoreLaw" (25 : Nat) "java/util/NoSuchElementException") ∈ xg_1 := xg_s3 215 rfl rfl
theorem gw_1226 : (Jvm.Cond.methodLink "PatchStoreLaw" (41 : Nat) ({ cls := "PatchStore", name := "pull", desc := "(III)I" } : Jvm.MethodName)) ∈ xg_1 := xg_s6 26 rfl rfl
theorem gw_1227 : (Jvm.Cond.instanceMethod ({ cls := "PatchStore", name := "pull", desc := "(III)I" } : Jvm.MethodName)) ∈ xg_1 := xg_s6 27 rfl rfl
theorem gw_1228 : (Jvm.Cond.selects "PatchStore" ({ cls := "PatchStore", name := "pull", desc := "(III)I" } : Jvm.MethodName) ({ cls := "PatchStore", name := "pull", desc := "(III)I" } : Jvm.MethodName)) ∈ xg_1 := xg_s6 28 rfl rfl
theorem gw_1229 : (Jvm.Cond.code ({ cls := "PatchStore", name := "pull", desc := "(III)I" } : Jvm.MethodName) prog_1_method_10_code (6 : Nat) (Option.some Jvm.ClassFile.FieldType.int)) ∈ xg_1 := xg_s6 29 rfl rfl
def y_Lw_pull : MethodName := ⟨"PatchStoreLaw", "pull", "(LPatchStore;III[J)I"⟩
abbrev c_Lw_pull : Cond := (Jvm.Cond.codeWith ({ cls := "PatchStoreLaw", name := "pull", desc := "(LPatchStore;III[J)I" } : Jvm.MethodName) method_10_code (6 : Nat) (Option.some Jvm.ClassFile.FieldType.int) [((0 : Nat), (12 : Nat), (15 : Nat), (25 : Nat))])
abbrev ws_Lw_pull : List Cond := c_Lw_pull :: xg_1
theorem d_Lw_pull_0 : decode method_10_code 0 = .ok (.aload 4, 2) := by decide +kernel
theorem d_Lw_pull_2 : decode method_10_code 2 = .ok (.iconst 0, 1) := by decide +kernel
theorem d_Lw_pull_3 : decode method_10_code 3 = .ok (.aload_n 0, 1) := by decide +kernel
theorem d_Lw_pull_4 : decode method_10_code 4 = .ok (.iload_n 1, 1) := by decide +kernel
theorem d_Lw_pull_5 : decode method_10_code 5 = .ok (.iload_n 2, 1) := by decide +kernel
theorem d_Lw_pull_6 : decode method_10_code 6 = .ok (.iload_n 3, 1) := by decide +kernel
theorem d_Lw_pull_7 : decode method_10_code 7 = .ok (.invokevirtual 41, 3) := by decide +kernel
theorem d_Lw_pull_10 : decode method_10_code 10 = .ok (.i2l, 1) := by decide +kernel
theorem d_Lw_pull_11 : decode method_10_code 11 = .ok (.lastore, 1) := by decide +kernel
theorem d_Lw_pull_12 : decode method_10_code 12 = .ok (.goto 7, 3) := by decide +kernel
theorem d_Lw_pull_15 : decode method_10_code 15 = .ok (.astore 5, 2) := by decide +kernel
theorem d_Lw_pull_17 : decode method_10_code 17 = .ok (.iconst 1, 1) := by decide +kernel
theorem d_Lw_pull_18 : decode method_10_code 18 = .ok (.ireturn, 1) := by decide +kernel
theorem d_Lw_pull_19 : decode method_10_code 19 = .ok (.iconst 0, 1) := by decide +kernel
theorem d_Lw_pull_20 : decode method_10_code 20 = .ok (.ireturn, 1) := by decide +kernel
/-- which exceptions no other catch takes -/
def xn_L : List (String × String) := [("java/util/NoSuchElementException", "java/lang/IllegalArgumentException"), ("java/util/NoSuchElementException", "java/lang/IllegalStateException"), ("java/util/NoSuchElementException", "java/lang/UnsupportedOperationException"), ("java/util/NoSuchElementException", "java/lang/IndexOutOfBoundsException"), ("java/lang/IllegalArgumentException", "java/util/NoSuchElementException"), ("java/lang/IllegalArgumentException", "java/lang/IllegalStateException"), ("java/lang/IllegalArgumentException", "java/lang/UnsupportedOperationException"), ("java/lang/IllegalArgumentException", "java/lang/IndexOutOfBoundsException"), ("java/lang/IllegalStateException", "java/util/NoSuchElementException"), ("java/lang/IllegalStateException", "java/lang/IllegalArgumentException"), ("java/lang/IllegalStateException", "java/lang/UnsupportedOperationException"), ("java/lang/IllegalStateException", "java/lang/IndexOutOfBoundsException"), ("java/lang/UnsupportedOperationException", "java/util/NoSuchElementException"), ("java/lang/UnsupportedOperationException", "java/lang/IllegalArgumentException"), ("java/lang/UnsupportedOperationException", "java/lang/IllegalStateException"), ("java/lang/UnsupportedOperationException", "java/lang/IndexOutOfBoundsException"), ("java/lang/IndexOutOfBoundsException", "java/util/NoSuchElementException"), ("java/lang/IndexOutOfBoundsException", "java/lang/IllegalArgumentException"), ("java/lang/IndexOutOfBoundsException", "java/lang/IllegalStateException"), ("java/lang/IndexOutOfBoundsException", "java/lang/UnsupportedOperationException")]
def xn (U : State) : Prop := ∀ q : String × String, q ∈ xn_L → va_Nc q.1 q.2 U
theorem xn.moved {u U : State} (hvm : u.vm.Alike U.vm) (h : xn u) : xn U := fun q hq => (h q hq).moved hvm
abbrev xw_Pl (dC : Nat → ClassId) (dI : Nat → Nat → Nat) (ty : List (ClassId × FieldType)) (av : List Value) (ws : va_W) (sz : Nat) : Array Value → State → Prop := va_Pc av (fun U => U.heap.size = sz ∧ va_P (dC, dI) classes ws U.heap ∧ va_K (dC, dI) classes ty U ∧ va_D (fun _ => True) ws ∧ xg_N U ∧ xe (va_A ws sz) U U.heap ∧ xn U)
theorem xw_blindl {dC : Nat → ClassId} {dI : Nat → Nat → Nat} {ty : List (ClassId × FieldType)} {av : List Value} {ws : va_W} {sz : Nat} : FrameBlind (xw_Pl dC dI ty av ws sz) := fun a U g mk q => by
  obtain ⟨q0, q1, qP, qK, qD, qN, qE, qn⟩ := q
  have hb := xw_blindx (dC := dC) (dI := dI) (ty := ty) (av := av) (ws := ws) (sz := sz) a U g mk ⟨q0, q1, qP, qK, qD, qN, qE⟩
  obtain ⟨r0, r1, rP, rK, rD, rN, rE⟩ := hb
  exact ⟨r0, r1, rP, rK, rD, rN, rE, qn.moved (u := U) (U := U.calling g mk a) (Vm.Alike.refl U.vm)⟩
set_option maxHeartbeats 4000000 in
set_option maxRecDepth 100000 in
/-- the law's pull -/
theorem m_L_pull (l : Launch) (dC : Nat → ClassId) (dI : Nat → Nat → Nat) (cI cB cL cZ cR : ClassId) (hlt : xl_T l) (h rp rr mb r2 m2 o : Nat) (ps_tape ps_sha ps_stock ps_intake ps_view ps_text ps_maker ps_recording ps_tapeLength ps_lastFault rr_digest rr_version rr_digestVersion r2_digest r2_size r2_version r2_digestVersion : Value) (mw aw ov : Nat → Int64) (g : Nat → Nat) (rf : Nat → Option Nat) (p0 p1 p2 : Int32) (sz : Nat) (hrf : ∀ k, k < 8 → rf k = some (g k)) (hrr_rr : ∀ n, n < 8 → p0 = nI n → g n = rr) (hrr_r2 : ∀ n, n < 8 → p1 = nI n → g n = r2) (hz : ∀ j, j < 8 → mw j = 0) (hz2 : ∀ j, j < 8 → aw j = 0) : xc_Met l y_Lw_pull ws_Lw_pull ({ frames := 16, cells := 3, slots := 18, locals := 500 }) (xw_Pl dC dI [(cI, .int), (cB, .byte), (cL, .long), (cZ, .boolean), (cR, .object "PatchStore$Repository")] [.ref h, .int p0, .int p1, .int p2, .ref o] [(h, .inr (0, [ps_tape, .ref rp, ps_sha, ps_stock, ps_intake, ps_view, ps_text, ps_maker, ps_recording, ps_tapeLength, ps_lastFault])), (rp, .inl (cR, 8, .inr (.inr (.inr (.inr rf))))), (rr, .inr (7, [.ref mb, rr_digest, .int 0, rr_version, rr_digestVersion])), (mb, .inl (cL, 8, .inr (.inl mw))), (r2, .inr (7, [.ref m2, r2_digest, r2_size, r2_version, r2_digestVersion])), (m2, .inl (cL, 8, .inr (.inl aw))), (o, .inl (cL, 1, .inr (.inl ov)))] sz) (xc_Q (S := Nat → Int64) (fun v (u : Nat → Int64) => ((∃ n : Nat, n < 8 ∧ p0 = nI n) ∧ (∃ n : Nat, n < 8 ∧ p1 = nI n) ∧ p2 < 0 ∧ v = some (.int 0) ∧ u 0 = 0) ∨ (v = some (.int 1) ∧ ((¬ ∃ n : Nat, n < 8 ∧ p0 = nI n) ∨ (¬ ∃ n : Nat, n < 8 ∧ p1 = nI n) ∨ ¬ p2 < 0))) (fun _ _ => False) (fun u t => xw_B dC dI [(cI, .int), (cB, .byte), (cL, .long), (cZ, .boolean), (cR, .object "PatchStore$Repository")] (va_A [(h, .inr (0, [ps_tape, .ref rp, ps_sha, ps_stock, ps_intake, ps_view, ps_text, ps_maker, ps_recording, ps_tapeLength, ps_lastFault])), (rp, .inl (cR, 8, .inr (.inr (.inr (.inr rf))))), (rr, .inr (7, [.ref mb, rr_digest, .int 0, rr_version, rr_digestVersion])), (mb, .inl (cL, 8, .inr (.inl mw))), (r2, .inr (7, [.ref m2, r2_digest, r2_size, r2_version, r2_digestVersion])), (m2, .inl (cL, 8, .inr (.inl aw))), (o, .inl (cL, 1, .inr (.inl ov)))] sz) [(o, .inl (cL, 1, .inr (.inl u)))] t) (va_A [(h, .inr (0, [ps_tape, .ref rp, ps_sha, ps_stock, ps_intake, ps_view, ps_text, ps_maker, ps_recording, ps_tapeLength, ps_lastFault])), (rp, .inl (cR, 8, .inr (.inr (.inr (.inr rf))))), (rr, .inr (7, [.ref mb, rr_digest, .int 0, rr_version, rr_digestVersion])), (mb, .inl (cL, 8, .inr (.inl mw))), (r2, .inr (7, [.ref m2, r2_digest, r2_size, r2_version, r2_digestVersion])), (m2, .inl (cL, 8, .inr (.inl aw))), (o, .inl (cL, 1, .inr (.inl ov)))] sz)) 3 18 (va_A [(h, .inr (0, [ps_tape, .ref rp, ps_sha, ps_stock, ps_intake, ps_view, ps_text, ps_maker, ps_recording, ps_tapeLength, ps_lastFault])), (rp, .inl (cR, 8, .inr (.inr (.inr (.inr rf))))), (rr, .inr (7, [.ref mb, rr_digest, .int 0, rr_version, rr_digestVersion])), (mb, .inl (cL, 8, .inr (.inl mw))), (r2, .inr (7, [.ref m2, r2_digest, r2_size, r2_version, r2_digestVersion])), (m2, .inl (cL, 8, .inr (.inl aw))), (o, .inl (cL, 1, .inr (.inl ov)))] sz) := by
  refine xc_ofWH (cc := method_10_code) (maxL := 6) (ret := (Option.some Jvm.ClassFile.FieldType.int)) (hh := [((0 : Nat), (12 : Nat), (15 : Nat), (25 : Nat))]) (by decide) rfl ?_
  intro p e s m args below meth c s₁ B hml hrows hv
  obtain ⟨rfl, hsz, hP, hK, hD0, hN, hTh, hNc⟩ := hv
  have hx := B.exec
  have hb := B.bytes
  have hr := B.returns
  have hts0 := atoms_spec (ws := ws_Lw_pull) B.pre
  have hts : ∀ w ∈ xg_1, w.before _ s = true := fun w h => hts0 w (List.mem_cons_of_mem _ h)
  have hown : s.vm.findClass "PatchStoreLaw" = some m.cls := findClass_of_methodNamed B.named
  have hlocks := B.notSynchronized
  subst hsz
  have hD := hD0.self (sz := s.heap.size)
  generalize hAe : va_A [(h, .inr (0, [ps_tape, .ref rp, ps_sha, ps_stock, ps_intake, ps_view, ps_text, ps_maker, ps_recording, ps_tapeLength, ps_lastFault])), (rp, .inl (cR, 8, .inr (.inr (.inr (.inr rf))))), (rr, .inr (7, [.ref mb, rr_digest, .int 0, rr_version, rr_digestVersion])), (mb, .inl (cL, 8, .inr (.inl mw))), (r2, .inr (7, [.ref m2, r2_digest, r2_size, r2_version, r2_digestVersion])), (m2, .inl (cL, 8, .inr (.inl aw))), (o, .inl (cL, 1, .inr (.inl ov)))] s.heap.size = A at hD hTh ⊢
  have hA : ∀ q : Nat, s.heap.size ≤ q → A q := fun q h => by rw [← hAe]; exact Or.inr h
  have hS : va_S A s.heap s.heap [] := va_S.rf
  have hl := lv_entry ([.ref h, .int p0, .int p1, .int p2, .ref o]) (n := 6) (Nat.le_of_ble_eq_true rfl)
  rw [lg_entry_eq]
  generalize (lg_sl ([.ref h, .int p0, .int p1, .int p2, .ref o]) ++ List.replicate (6 - (lg_sl ([.ref h, .int p0, .int p1, .int p2, .ref o])).length) Slot.unset).toArray = ls at hl ⊢
  have hl : lv_has ls 6 [(0, .ref h), (1, .int p0), (2, .int p1), (3, .int p2), (4, .ref o)] := hl
  refine lv_aload hx hb d_Lw_pull_0 (lv_at hl 4 rfl) ?_
  refine lv_iconst (v := 0) hx hb d_Lw_pull_2 (by decide) ?_
  refine lv_aload_n hx hb d_Lw_pull_3 rfl (lv_at hl 0 rfl) ?_
  refine lv_iload_n hx hb d_Lw_pull_4 rfl (lv_at hl 1 rfl) ?_
  refine lv_iload_n hx hb d_Lw_pull_5 rfl (lv_at hl 2 rfl) ?_
  refine lv_iload_n hx hb d_Lw_pull_6 rfl (lv_at hl 3 rfl) ?_
  have hPc := hP.sub (ws' := [(h, .inr (0, [ps_tape, .ref rp, ps_sha, ps_stock, ps_intake, ps_view, ps_text, ps_maker, ps_recording, ps_tapeLength, ps_lastFault])), (rp, .inl (cR, 8, .inr (.inr (.inr (.inr rf))))), (rr, .inr (7, [.ref mb, rr_digest, .int 0, rr_version, rr_digestVersion])), (mb, .inl (cL, 8, .inr (.inl mw))), (r2, .inr (7, [.ref m2, r2_digest, r2_size, r2_version, r2_digestVersion])), (m2, .inl (cL, 8, .inr (.inl aw)))]) [0, 1, 2, 3, 4, 5] rfl
  have hDc := hD.sub (ws' := [(h, .inr (0, [ps_tape, .ref rp, ps_sha, ps_stock, ps_intake, ps_view, ps_text, ps_maker, ps_recording, ps_tapeLength, ps_lastFault])), (rp, .inl (cR, 8, .inr (.inr (.inr (.inr rf))))), (rr, .inr (7, [.ref mb, rr_digest, .int 0, rr_version, rr_digestVersion])), (mb, .inl (cL, 8, .inr (.inl mw))), (r2, .inr (7, [.ref m2, r2_digest, r2_size, r2_version, r2_digestVersion])), (m2, .inl (cL, 8, .inr (.inl aw)))]) [0, 1, 2, 3, 4, 5] (by decide) rfl
  have hFc := va_free (wc := [(h, .inr (0, [ps_tape, .ref rp, ps_sha, ps_stock, ps_intake, ps_view, ps_text, ps_maker, ps_recording, ps_tapeLength, ps_lastFault])), (rp, .inl (cR, 8, .inr (.inr (.inr (.inr rf))))), (rr, .inr (7, [.ref mb, rr_digest, .int 0, rr_version, rr_digestVersion])), (mb, .inl (cL, 8, .inr (.inl mw))), (r2, .inr (7, [.ref m2, r2_digest, r2_size, r2_version, r2_digestVersion])), (m2, .inl (cL, 8, .inr (.inl aw)))]) hD hS hA [0, 1, 2, 3, 4, 5] rfl
  refine xc_call (xc_runV (As := [.int p0, .int p1, .int p2]) (rest := [.int 0, .ref o]) (C := "PatchStore") ⟨hx, hb, hml, hown, hts⟩ (m_PS_pull0 l dC dI cI cB cL cZ cR hlt h rp rr mb r2 m2 ps_tape ps_sha ps_stock ps_intake ps_view ps_text ps_maker ps_recording ps_tapeLength ps_lastFault rr_digest rr_version rr_digestVersion r2_digest r2_size r2_version r2_digestVersion mw aw g rf p0 p1 p2 s.heap.size hrf hrr_rr hrr_r2 hz hz2) (xc_bOf 3 hts (xg_in gw_1229) (xc_Is.code (hts _ gw_1229)) rfl rfl (hts _ gw_1) (by decide +kernel) ⟨Nat.le_of_ble_eq_true rfl, Nat.le_of_ble_eq_true rfl⟩) (hts _ gw_1226) (hts _ gw_1227) (hts _ gw_1228) ⟨xw_blindx, va_recv hK hPc (ci := 0) (q0 := 0) rfl rfl, fun U hU hW => ⟨rfl, by rw [hU], by rw [hU]; exact hPc, va_K.moved hW.alike hK, hDc.weaken (fun _ _ _ _ => trivial), xg_N.warm hW hN, by rw [hU]; exact ((hTh.kept (fun a h1 h2 => hS.2.1 a h1 h2)).narrow hFc).moved hW.alike⟩⟩ rfl rfl hl.1 rfl (lv_room (Nat.le_of_ble_eq_true rfl)) d_Lw_pull_7 ⟨Nat.le_of_ble_eq_true rfl, Nat.le_of_ble_eq_true rfl⟩) hS (fun q _ h => hFc q h) hFc (fun v9 u t H1 locs ht hvm hw hB hz1 hk1 hS => ?_) (fun x9 C9 u t H1 locs ht hvm hw hex hB hz1 hk1 hS => ?_)
  · obtain ⟨g1, g2, g3, rfl⟩ := hw
    have hP1 : va_P (dC, dI) classes [] H1 := fun k q h => by simp at h
    have hD1 : va_D (va_A [(h, .inr (0, [ps_tape, .ref rp, ps_sha, ps_stock, ps_intake, ps_view, ps_text, ps_maker, ps_recording, ps_tapeLength, ps_lastFault])), (rp, .inl (cR, 8, .inr (.inr (.inr (.inr rf))))), (rr, .inr (7, [.ref mb, rr_digest, .int 0, rr_version, rr_digestVersion])), (mb, .inl (cL, 8, .inr (.inl mw))), (r2, .inr (7, [.ref m2, r2_digest, r2_size, r2_version, r2_digestVersion])), (m2, .inl (cL, 8, .inr (.inl aw)))] s.heap.size) [] := ⟨fun i j q r h => by simp at h, fun k q h => by simp at h⟩
    obtain ⟨hP, hD⟩ := va_join (wr := [(o, .inl (cL, 1, .inr (.inl ov)))]) (w1 := []) hP hD [0, 1, 2, 3, 4, 5] [6] rfl rfl (by decide) (by decide) hk1 hFc hP1 hD1
    generalize H1 = H at hP hS ht ⊢
    have hP : va_P (dC, dI) classes [(o, .inl (cL, 1, .inr (.inl ov)))] H := hP
    have hD : va_D A [(o, .inl (cL, 1, .inr (.inl ov)))] := hD
    refine W.eq (g2 := F0 m 10 ls [.int 0, .int 0, .ref o]) rfl ?_
    refine W.widen (k := 3) (n := 18) (Nat.le_of_ble_eq_true rfl) (Nat.le_of_ble_eq_true rfl) ?_
    refine lv_i2l hx hb d_Lw_pull_10 rfl ?_
    refine va_last hx hb hK hP hD hS 0 2 rfl rfl (vp_in_nI (n := 0) (by omega) (by omega)) d_Lw_pull_11 (fun H locs hP hD hS => ?_)
    rw [show (0 : Int32).toNatClampNeg = 0 from rfl] at hP hD
    have hP : va_P (dC, dI) classes [(o, .inl (cL, 1, .inr (.inl (vp_updL ov 0 ((0 : Int32).toInt64)))))] H := hP
    have hD : va_D A [(o, .inl (cL, 1, .inr (.inl (vp_updL ov 0 ((0 : Int32).toInt64)))))] := hD
    refine lv_goto (tgt := 19) hx hb d_Lw_pull_12 (by decide) ?_
    refine lv_iconst (v := 0) hx hb d_Lw_pull_19 (by decide) ?_
    refine W.widen (k := 3) (n := 18) (Nat.le_of_ble_eq_true rfl) (Nat.le_of_ble_eq_true rfl) ?_
    exact xc_ret (W.iret (v := 0) hx hb hr (fun t ht hW => ⟨Or.inl ⟨_, vp_updL ov 0 ((0 : Int32).toInt64), rfl, Or.inl ⟨g1, g2, g3, rfl, rfl⟩, (by rw [ht]; exact hP), va_K.moved hW.alike hK, hD⟩, hS.F ht⟩) hS.2.2 d_Lw_pull_20)
  · skip
    have hP1 : va_P (dC, dI) classes [] H1 := fun k q h => by simp at h
    have hD1 : va_D (va_A [(h, .inr (0, [ps_tape, .ref rp, ps_sha, ps_stock, ps_intake, ps_view, ps_text, ps_maker, ps_recording, ps_tapeLength, ps_lastFault])), (rp, .inl (cR, 8, .inr (.inr (.inr (.inr rf))))), (rr, .inr (7, [.ref mb, rr_digest, .int 0, rr_version, rr_digestVersion])), (mb, .inl (cL, 8, .inr (.inl mw))), (r2, .inr (7, [.ref m2, r2_digest, r2_size, r2_version, r2_digestVersion])), (m2, .inl (cL, 8, .inr (.inl aw)))] s.heap.size) [] := ⟨fun i j q r h => by simp at h, fun k q h => by simp at h⟩
    obtain ⟨hP, hD⟩ := va_join (wr := [(o, .inl (cL, 1, .inr (.inl ov)))]) (w1 := []) hP hD [0, 1, 2, 3, 4, 5] [6] rfl rfl (by decide) (by decide) hk1 hFc hP1 hD1
    generalize H1 = H at hP hS ht ⊢
    have hP : va_P (dC, dI) classes [(o, .inl (cL, 1, .inr (.inl ov)))] H := hP
    have hD : va_D A [(o, .inl (cL, 1, .inr (.inl ov)))] := hD
    obtain ⟨rfl, hb9⟩ := hw
    skip
    refine xc_catch (tgt := 15) hown hrows ht hvm hex ⟨⟨by decide, by decide⟩, by decide, "java/util/NoSuchElementException", hts _ gw_695, Or.inl ⟨va_Nw.use rfl (hN _ gn_706), rfl⟩⟩ ?_
    refine lv_astore (lv' := [(5, .ref x9), (0, .ref h), (1, .int p0), (2, .int p1), (3, .int p2), (4, .ref o)]) hx hb d_Lw_pull_15 hl (by decide) rfl (fun ls hl => ?_)
    refine lv_iconst (v := 1) hx hb d_Lw_pull_17 (by decide) ?_
    refine W.widen (k := 3) (n := 18) (Nat.le_of_ble_eq_true rfl) (Nat.le_of_ble_eq_true rfl) ?_
    exact xc_ret (W.iret (v := 1) hx hb hr (fun t ht hW => ⟨Or.inl ⟨_, ov, rfl, Or.inr ⟨rfl, hb9⟩, (by rw [ht]; exact hP), va_K.moved hW.alike hK, hD⟩, hS.F ht⟩) hS.2.2 d_Lw_pull_18)
