/-! 99zzzcj.helpers.lean.txt -/
theorem gw_1035 : (Jvm.Cond.classLink "PatchStoreLaw" (33 : Nat) "java/lang/UnsupportedOperationException") ∈ xg_1 := xg_s5 75 rfl rfl
def cd_feed (C : String) : Int32 := 1
def cd_end (C : String) : Int32 := 1
def cd_add (C : String) : Int32 := if C = "java/util/NoSuchElementException" then 1 else if C = "java/lang/IllegalArgumentException" then 2 else 3
def cd_call (C : String) : Int32 := if C = "java/util/NoSuchElementException" then 1 else if C = "java/lang/IllegalArgumentException" then 2 else 3
def cd_record (C : String) : Int32 := if C = "java/util/NoSuchElementException" then 1 else if C = "java/lang/IllegalArgumentException" then 2 else if C = "java/lang/UnsupportedOperationException" then 3 else 4
def cd_read (C : String) : Int32 := if C = "java/util/NoSuchElementException" then 1 else if C = "java/lang/IllegalArgumentException" then 2 else 3
def cd_show (C : String) : Int32 := if C = "java/util/NoSuchElementException" then 1 else 2
def cd_pull (C : String) : Int32 := 1
def cd_drop (C : String) : Int32 := if C = "java/util/NoSuchElementException" then 1 else 2
def cd_has (C : String) : Int32 := if C = "java/util/NoSuchElementException" then 1 else 2
def cd_hash (C : String) : Int32 := if C = "java/util/NoSuchElementException" then 1 else 2
def cd_state (C : String) : Int32 := if C = "java/util/NoSuchElementException" then 1 else 2
def cd_about (C : String) : Int32 := if C = "java/util/NoSuchElementException" then 1 else 2
def cd_file (C : String) : Int32 := if C = "java/util/NoSuchElementException" then 1 else 2
def cd_name (C : String) : Int32 := if C = "java/util/NoSuchElementException" then 1 else 2
def cd_line (C : String) : Int32 := if C = "java/util/NoSuchElementException" then 1 else 2
set_option maxHeartbeats 4000000 in
set_option maxRecDepth 100000 in
/-- read of the class, no such repository -/
theorem m_PS_readX (l : Launch) (dC : Nat → ClassId) (dI : Nat → Nat → Nat) (cI cB cL cZ cR : ClassId) (hlt : xl_T l) (h rp : Nat) (ps_tape ps_sha ps_stock ps_intake ps_view ps_text ps_maker ps_recording ps_tapeLength ps_lastFault : Value) (g : Nat → Nat) (rf : Nat → Option Nat) (p0 : Int32) (sz : Nat) (hrf : ∀ k, k < 8 → rf k = some (g k)) (hbadr : ¬ ∃ n : Nat, n < 8 ∧ p0 = nI n) : xc_Met l y_PS_read ws_PS_read ({ frames := 12, cells := 2, slots := 12, locals := 300 }) (xw_Px dC dI [(cI, .int), (cB, .byte), (cL, .long), (cZ, .boolean), (cR, .object "PatchStore$Repository")] [.ref h, .int p0] [(h, .inr (0, [ps_tape, .ref rp, ps_sha, ps_stock, ps_intake, ps_view, ps_text, ps_maker, ps_recording, ps_tapeLength, ps_lastFault])), (rp, .inl (cR, 8, .inr (.inr (.inr (.inr rf)))))] sz) (xc_Q (S := Unit) (fun _ (_ : Unit) => False) (fun C (_ : Unit) => C = "java/util/NoSuchElementException") (fun _ t => xw_B dC dI [(cI, .int), (cB, .byte), (cL, .long), (cZ, .boolean), (cR, .object "PatchStore$Repository")] (va_A [(h, .inr (0, [ps_tape, .ref rp, ps_sha, ps_stock, ps_intake, ps_view, ps_text, ps_maker, ps_recording, ps_tapeLength, ps_lastFault])), (rp, .inl (cR, 8, .inr (.inr (.inr (.inr rf)))))] sz) [(h, .inr (0, [ps_tape, .ref rp, ps_sha, ps_stock, ps_intake, ps_view, ps_text, ps_maker, ps_recording, ps_tapeLength, .int 0])), (rp, .inl (cR, 8, .inr (.inr (.inr (.inr rf)))))] t) (va_A [(h, .inr (0, [ps_tape, .ref rp, ps_sha, ps_stock, ps_intake, ps_view, ps_text, ps_maker, ps_recording, ps_tapeLength, ps_lastFault])), (rp, .inl (cR, 8, .inr (.inr (.inr (.inr rf)))))] sz)) 2 12 (va_A [(h, .inr (0, [ps_tape, .ref rp, ps_sha, ps_stock, ps_intake, ps_view, ps_text, ps_maker, ps_recording, ps_tapeLength, ps_lastFault])), (rp, .inl (cR, 8, .inr (.inr (.inr (.inr rf)))))] sz) := by
  refine xc_ofW (cc := prog_1_method_7_code) (maxL := 4) (ret := (Option.some Jvm.ClassFile.FieldType.int)) (by decide) rfl ?_
  intro p e s m args below meth c s₁ B hml hno hv
  obtain ⟨rfl, hsz, hP, hK, hD0, hN, hTh⟩ := hv
  have htr : e.platform.stackTraces = false := hlt e B.admits
  have hx := B.exec
  have hb := B.bytes
  have hr := B.returns
  have hts0 := atoms_spec (ws := ws_PS_read) B.pre
  have hts : ∀ w ∈ xg_1, w.before _ s = true := fun w h => hts0 w (List.mem_cons_of_mem _ h)
  have hown : s.vm.findClass "PatchStore" = some m.cls := findClass_of_methodNamed B.named
  have hlocks := B.notSynchronized
  subst hsz
  have hD := hD0.self (sz := s.heap.size)
  generalize hAe : va_A [(h, .inr (0, [ps_tape, .ref rp, ps_sha, ps_stock, ps_intake, ps_view, ps_text, ps_maker, ps_recording, ps_tapeLength, ps_lastFault])), (rp, .inl (cR, 8, .inr (.inr (.inr (.inr rf)))))] s.heap.size = A at hD hTh ⊢
  have hA : ∀ q : Nat, s.heap.size ≤ q → A q := fun q h => by rw [← hAe]; exact Or.inr h
  have hS : va_S A s.heap s.heap [] := va_S.rf
  have hl := lv_entry ([.ref h, .int p0]) (n := 4) (Nat.le_of_ble_eq_true rfl)
  rw [lg_entry_eq]
  generalize (lg_sl ([.ref h, .int p0]) ++ List.replicate (4 - (lg_sl ([.ref h, .int p0])).length) Slot.unset).toArray = ls at hl ⊢
  have hl : lv_has ls 4 [(0, .ref h), (1, .int p0)] := hl
  refine lv_aload_n hx hb d_PS_read_0 rfl (lv_at hl 0 rfl) ?_
  refine lv_iconst (v := 0) hx hb d_PS_read_1 (by decide) ?_
  refine va_put (D := (dC, dI)) (ci := 0) (v := .int 0) (ty := .int) (C := R_PS) (T := F_PS) (N := 11) hx hb hts i_PS t_PS t_PS_ok n_PS hown hK hP hD hS 0 rfl rfl 10 (by decide) (hts _ gw_558) (fun _ h9 => h9) rfl (by decide +kernel) rfl rfl (Nat.le_of_ble_eq_true rfl) d_PS_read_2 (fun H locs hP hD hS => ?_)
  have hP : va_P (dC, dI) classes [(h, .inr (0, [ps_tape, .ref rp, ps_sha, ps_stock, ps_intake, ps_view, ps_text, ps_maker, ps_recording, ps_tapeLength, .int 0])), (rp, .inl (cR, 8, .inr (.inr (.inr (.inr rf)))))] H := hP
  have hD : va_D A [(h, .inr (0, [ps_tape, .ref rp, ps_sha, ps_stock, ps_intake, ps_view, ps_text, ps_maker, ps_recording, ps_tapeLength, .int 0])), (rp, .inl (cR, 8, .inr (.inr (.inr (.inr rf)))))] := hD
  refine lv_aload_n hx hb d_PS_read_5 rfl (lv_at hl 0 rfl) ?_
  refine lv_iload_n hx hb d_PS_read_6 rfl (lv_at hl 1 rfl) ?_
  have hPc := hP.sub (ws' := [(h, .inr (0, [ps_tape, .ref rp, ps_sha, ps_stock, ps_intake, ps_view, ps_text, ps_maker, ps_recording, ps_tapeLength, .int 0])), (rp, .inl (cR, 8, .inr (.inr (.inr (.inr rf)))))]) [0, 1] rfl
  have hDc := hD.sub (ws' := [(h, .inr (0, [ps_tape, .ref rp, ps_sha, ps_stock, ps_intake, ps_view, ps_text, ps_maker, ps_recording, ps_tapeLength, .int 0])), (rp, .inl (cR, 8, .inr (.inr (.inr (.inr rf)))))]) [0, 1] (by decide) rfl
  have hFc := va_free (wc := [(h, .inr (0, [ps_tape, .ref rp, ps_sha, ps_stock, ps_intake, ps_view, ps_text, ps_maker, ps_recording, ps_tapeLength, .int 0])), (rp, .inl (cR, 8, .inr (.inr (.inr (.inr rf)))))]) hD hS hA [0, 1] rfl
  refine xc_call (xc_runV (As := [.int p0]) (rest := []) (C := "PatchStore") ⟨hx, hb, hml, hown, hts⟩ (m_PS_repositoryAt l dC dI cI cB cL cZ cR hlt h rp (ps_tape) (ps_sha) (ps_stock) (ps_intake) (ps_view) (ps_text) (ps_maker) (ps_recording) (ps_tapeLength) (.int 0) g rf p0 H.size hrf) (xc_bOf 1 hts (xg_in gw_703) (xc_Is.code (hts _ gw_703)) rfl rfl (hts _ gw_1) (by decide +kernel) ⟨Nat.le_of_ble_eq_true rfl, Nat.le_of_ble_eq_true rfl⟩) (hts _ gw_700) (hts _ gw_702) (hts _ (xg_p 2 (q := (⟨"PatchStore", "repositoryAt", "(I)LPatchStore$Repository;"⟩, 11)) (by decide +kernel))) ⟨xw_blindx, va_recv hK hPc (ci := 0) (q0 := 0) rfl rfl, fun U hU hW => ⟨rfl, by rw [hU], by rw [hU]; exact hPc, va_K.moved hW.alike hK, hDc.weaken (fun _ _ _ _ => trivial), xg_N.warm hW hN, by rw [hU]; exact ((hTh.kept (fun a h1 h2 => hS.2.1 a h1 h2)).narrow hFc).moved hW.alike⟩⟩ rfl rfl hl.1 rfl (lv_room (Nat.le_of_ble_eq_true rfl)) d_PS_read_7 ⟨Nat.le_of_ble_eq_true rfl, Nat.le_of_ble_eq_true rfl⟩) hS (fun q _ h => hFc q h) hFc (fun v9 u t H1 locs ht hvm hw hB hz1 hk1 hS => ?_) (fun x9 C9 u t H1 locs ht hvm hw hex hB hz1 hk1 hS => ?_)
  · skip
    exact absurd ⟨hw.choose, hw.choose_spec.1, hw.choose_spec.2.1⟩ hbadr
  · obtain ⟨hbad, rfl⟩ := hw
    obtain ⟨hP1, hK1, hD1⟩ := hB
    rw [ht] at hP1
    obtain ⟨hP, hD⟩ := va_join (wr := []) (w1 := [(h, .inr (0, [ps_tape, .ref rp, ps_sha, ps_stock, ps_intake, ps_view, ps_text, ps_maker, ps_recording, ps_tapeLength, .int 0])), (rp, .inl (cR, 8, .inr (.inr (.inr (.inr rf)))))]) hP hD [0, 1] [] rfl rfl (by decide) (by decide) hk1 hFc hP1 hD1
    generalize H1 = H at hP hS ht ⊢
    have hP : va_P (dC, dI) classes [(h, .inr (0, [ps_tape, .ref rp, ps_sha, ps_stock, ps_intake, ps_view, ps_text, ps_maker, ps_recording, ps_tapeLength, .int 0])), (rp, .inl (cR, 8, .inr (.inr (.inr (.inr rf)))))] H := hP
    have hD : va_D A [(h, .inr (0, [ps_tape, .ref rp, ps_sha, ps_stock, ps_intake, ps_view, ps_text, ps_maker, ps_recording, ps_tapeLength, .int 0])), (rp, .inl (cR, 8, .inr (.inr (.inr (.inr rf)))))] := hD
    refine xc_TW.widen (k := 2) (n := 12) (Nat.le_of_ble_eq_true rfl) (Nat.le_of_ble_eq_true rfl) ?_
    exact xc_pass (u := ()) hlocks hno ht hvm hex (rfl) (fun t9 h9 hW9 => ⟨by rw [h9]; exact hP, va_K.moved hW9.alike hK, hD⟩) hS
set_option maxHeartbeats 4000000 in
set_option maxRecDepth 100000 in
/-- the law's add -/
theorem m_L_addX (l : Launch) (dC : Nat → ClassId) (dI : Nat → Nat → Nat) (cI cB cL cZ cR : ClassId) (hlt : xl_T l) (h rp : Nat) (ps_tape ps_sha ps_stock ps_intake ps_view ps_text ps_maker ps_recording ps_tapeLength ps_lastFault : Value) (g : Nat → Nat) (rf : Nat → Option Nat) (p0 p1 : Int32) (o : Nat) (oo9 : Nat → Int64) (sz : Nat) (hrf : ∀ k, k < 8 → rf k = some (g k)) (hbadr : ¬ ∃ n : Nat, n < 8 ∧ p0 = nI n) : xc_Met l y_Lw_add ws_Lw_add ({ frames := 14, cells := 2, slots := 12, locals := 340 }) (xw_Pl dC dI [(cI, .int), (cB, .byte), (cL, .long), (cZ, .boolean), (cR, .object "PatchStore$Repository")] [.ref h, .int p0, .int p1, .ref o] [(h, .inr (0, [ps_tape, .ref rp, ps_sha, ps_stock, ps_intake, ps_view, ps_text, ps_maker, ps_recording, ps_tapeLength, ps_lastFault])), (rp, .inl (cR, 8, .inr (.inr (.inr (.inr rf))))), (o, .inl (cL, 1, .inr (.inl oo9)))] sz) (xc_Q (S := (Unit) × (Nat → Int64)) (fun v (w : (Unit) × (Nat → Int64)) => (∃ r : Int32, v = some (.int 0) ∧ w.2 0 = r.toInt64 ∧ (fun (_ : Option Value) (_ : Unit) => False) (some (.int r)) w.1) ∨ (∃ C : String, v = some (.int (cd_add C)) ∧ (fun (C : String) (_ : Unit) => C = "java/util/NoSuchElementException") C w.1)) (fun _ _ => False) (fun w t => xw_B dC dI [(cI, .int), (cB, .byte), (cL, .long), (cZ, .boolean), (cR, .object "PatchStore$Repository")] (va_A [(h, .inr (0, [ps_tape, .ref rp, ps_sha, ps_stock, ps_intake, ps_view, ps_text, ps_maker, ps_recording, ps_tapeLength, ps_lastFault])), (rp, .inl (cR, 8, .inr (.inr (.inr (.inr rf))))), (o, .inl (cL, 1, .inr (.inl oo9)))] sz) [(h, .inr (0, [ps_tape, .ref rp, ps_sha, ps_stock, ps_intake, ps_view, ps_text, ps_maker, ps_recording, ps_tapeLength, ps_lastFault])), (rp, .inl (cR, 8, .inr (.inr (.inr (.inr rf))))), (o, .inl (cL, 1, .inr (.inl w.2)))] t) (va_A [(h, .inr (0, [ps_tape, .ref rp, ps_sha, ps_stock, ps_intake, ps_view, ps_text, ps_maker, ps_recording, ps_tapeLength, ps_lastFault])), (rp, .inl (cR, 8, .inr (.inr (.inr (.inr rf))))), (o, .inl (cL, 1, .inr (.inl oo9)))] sz)) 2 12 (va_A [(h, .inr (0, [ps_tape, .ref rp, ps_sha, ps_stock, ps_intake, ps_view, ps_text, ps_maker, ps_recording, ps_tapeLength, ps_lastFault])), (rp, .inl (cR, 8, .inr (.inr (.inr (.inr rf))))), (o, .inl (cL, 1, .inr (.inl oo9)))] sz) := by
  refine xc_ofWH (cc := method_5_code) (maxL := 5) (ret := (Option.some Jvm.ClassFile.FieldType.int)) (hh := [((0 : Nat), (10 : Nat), (13 : Nat), (25 : Nat)), ((0 : Nat), (10 : Nat), (17 : Nat), (19 : Nat)), ((0 : Nat), (10 : Nat), (21 : Nat), (13 : Nat))]) (by decide) rfl ?_
  intro p e s m args below meth c s₁ B hml hrows hv
  obtain ⟨rfl, hsz, hP, hK, hD0, hN, hTh, hNc⟩ := hv
  have hx := B.exec
  have hb := B.bytes
  have hr := B.returns
  have hts0 := atoms_spec (ws := ws_Lw_add) B.pre
  have hts : ∀ w ∈ xg_1, w.before _ s = true := fun w h => hts0 w (List.mem_cons_of_mem _ h)
  have hown : s.vm.findClass "PatchStoreLaw" = some m.cls := findClass_of_methodNamed B.named
  have hlocks := B.notSynchronized
  subst hsz
  have hD := hD0.self (sz := s.heap.size)
  generalize hAe : va_A [(h, .inr (0, [ps_tape, .ref rp, ps_sha, ps_stock, ps_intake, ps_view, ps_text, ps_maker, ps_recording, ps_tapeLength, ps_lastFault])), (rp, .inl (cR, 8, .inr (.inr (.inr (.inr rf))))), (o, .inl (cL, 1, .inr (.inl oo9)))] s.heap.size = A at hD hTh ⊢
  have hA : ∀ q : Nat, s.heap.size ≤ q → A q := fun q h => by rw [← hAe]; exact Or.inr h
  have hS : va_S A s.heap s.heap [] := va_S.rf
  have hl := lv_entry ([.ref h, .int p0, .int p1, .ref o]) (n := 5) (Nat.le_of_ble_eq_true rfl)
  rw [lg_entry_eq]
  generalize (lg_sl ([.ref h, .int p0, .int p1, .ref o]) ++ List.replicate (5 - (lg_sl ([.ref h, .int p0, .int p1, .ref o])).length) Slot.unset).toArray = ls at hl ⊢
  have hl : lv_has ls 5 [(0, .ref h), (1, .int p0), (2, .int p1), (3, .ref o)] := hl
  refine lv_aload_n hx hb d_Lw_add_0 rfl (lv_at hl 3 rfl) ?_
  refine lv_iconst (v := 0) hx hb d_Lw_add_1 (by decide) ?_
  refine lv_aload_n hx hb d_Lw_add_2 rfl (lv_at hl 0 rfl) ?_
  refine lv_iload_n hx hb d_Lw_add_3 rfl (lv_at hl 1 rfl) ?_
  refine lv_iload_n hx hb d_Lw_add_4 rfl (lv_at hl 2 rfl) ?_
  have hPc := hP.sub (ws' := [(h, .inr (0, [ps_tape, .ref rp, ps_sha, ps_stock, ps_intake, ps_view, ps_text, ps_maker, ps_recording, ps_tapeLength, ps_lastFault])), (rp, .inl (cR, 8, .inr (.inr (.inr (.inr rf)))))]) [0, 1] rfl
  have hDc := hD.sub (ws' := [(h, .inr (0, [ps_tape, .ref rp, ps_sha, ps_stock, ps_intake, ps_view, ps_text, ps_maker, ps_recording, ps_tapeLength, ps_lastFault])), (rp, .inl (cR, 8, .inr (.inr (.inr (.inr rf)))))]) [0, 1] (by decide) rfl
  have hFc := va_free (wc := [(h, .inr (0, [ps_tape, .ref rp, ps_sha, ps_stock, ps_intake, ps_view, ps_text, ps_maker, ps_recording, ps_tapeLength, ps_lastFault])), (rp, .inl (cR, 8, .inr (.inr (.inr (.inr rf)))))]) hD hS hA [0, 1] rfl
  refine xc_call (xc_runV (As := [.int p0, .int p1]) (rest := [.int 0, .ref o]) (C := "PatchStore") ⟨hx, hb, hml, hown, hts⟩ (m_PS_addX l dC dI cI cB cL cZ cR hlt h rp ps_tape ps_sha ps_stock ps_intake ps_view ps_text ps_maker ps_recording ps_tapeLength ps_lastFault g rf p0 p1 s.heap.size hrf hbadr) (xc_bOf 2 hts (xg_in gw_699) (xc_Is.code (hts _ gw_699)) rfl rfl (hts _ gw_1) (by decide +kernel) ⟨Nat.le_of_ble_eq_true rfl, Nat.le_of_ble_eq_true rfl⟩) (hts _ gw_696) (hts _ gw_697) (hts _ gw_698) ⟨xw_blindx, va_recv hK hPc (ci := 0) (q0 := 0) rfl rfl, fun U hU hW => ⟨rfl, by rw [hU], by rw [hU]; exact hPc, va_K.moved hW.alike hK, hDc.weaken (fun _ _ _ _ => trivial), xg_N.warm hW hN, by rw [hU]; exact ((hTh.kept (fun a h1 h2 => hS.2.1 a h1 h2)).narrow hFc).moved hW.alike⟩⟩ rfl rfl hl.1 rfl (lv_room (Nat.le_of_ble_eq_true rfl)) d_Lw_add_5 ⟨Nat.le_of_ble_eq_true rfl, Nat.le_of_ble_eq_true rfl⟩) hS (fun q _ h => hFc q h) hFc (fun v9 u t H1 locs ht hvm hw hB hz1 hk1 hS => ?_) (fun x9 C9 u t H1 locs ht hvm hw hex hB hz1 hk1 hS => ?_)
  · skip
    exact False.elim hw
  · have hC9 : C9 = "java/util/NoSuchElementException" := by
      exact hw
    obtain ⟨hP1, hK1, hD1⟩ := hB
    rw [ht] at hP1
    obtain ⟨hP, hD⟩ := va_join (wr := [(o, .inl (cL, 1, .inr (.inl oo9)))]) (w1 := [(h, .inr (0, [ps_tape, .ref rp, ps_sha, ps_stock, ps_intake, ps_view, ps_text, ps_maker, ps_recording, ps_tapeLength, ps_lastFault])), (rp, .inl (cR, 8, .inr (.inr (.inr (.inr rf)))))]) hP hD [0, 1] [2] rfl rfl (by decide) (by decide) hk1 hFc hP1 hD1
    generalize H1 = H at hP hS ht ⊢
    have hP : va_P (dC, dI) classes [(o, .inl (cL, 1, .inr (.inl oo9))), (h, .inr (0, [ps_tape, .ref rp, ps_sha, ps_stock, ps_intake, ps_view, ps_text, ps_maker, ps_recording, ps_tapeLength, ps_lastFault])), (rp, .inl (cR, 8, .inr (.inr (.inr (.inr rf)))))] H := hP
    have hD : va_D A [(o, .inl (cL, 1, .inr (.inl oo9))), (h, .inr (0, [ps_tape, .ref rp, ps_sha, ps_stock, ps_intake, ps_view, ps_text, ps_maker, ps_recording, ps_tapeLength, ps_lastFault])), (rp, .inl (cR, 8, .inr (.inr (.inr (.inr rf)))))] := hD
    obtain rfl := hC9
    have hcd : cd_add "java/util/NoSuchElementException" = 1 := by first | decide | (simp [cd_add]; done)
    refine xc_catch (tgt := 13) hown hrows ht hvm hex ⟨⟨by decide, by decide⟩, by decide, "java/util/NoSuchElementException", hts _ gw_695, Or.inl ⟨va_Nw.use rfl (hN _ gn_706), rfl⟩⟩ ?_
    refine lv_astore (lv' := [(4, .ref x9), (0, .ref h), (1, .int p0), (2, .int p1), (3, .ref o)]) hx hb d_Lw_add_13 hl (by decide) rfl (fun ls hl => ?_)
    refine lv_iconst (v := 1) hx hb d_Lw_add_15 (by decide) ?_
    have hP := hP.sub (ws' := [(h, .inr (0, [ps_tape, .ref rp, ps_sha, ps_stock, ps_intake, ps_view, ps_text, ps_maker, ps_recording, ps_tapeLength, ps_lastFault])), (rp, .inl (cR, 8, .inr (.inr (.inr (.inr rf))))), (o, .inl (cL, 1, .inr (.inl oo9)))]) [1, 2, 0] rfl
    have hD := hD.sub (ws' := [(h, .inr (0, [ps_tape, .ref rp, ps_sha, ps_stock, ps_intake, ps_view, ps_text, ps_maker, ps_recording, ps_tapeLength, ps_lastFault])), (rp, .inl (cR, 8, .inr (.inr (.inr (.inr rf))))), (o, .inl (cL, 1, .inr (.inl oo9)))]) [1, 2, 0] (by decide) rfl
    refine W.widen (k := 2) (n := 12) (Nat.le_of_ble_eq_true rfl) (Nat.le_of_ble_eq_true rfl) ?_
    exact xc_ret (W.iret (v := 1) hx hb hr (fun t ht hW => ⟨Or.inl ⟨_, (u, oo9), rfl, Or.inr ⟨_, congrArg (fun z => some (Value.int z)) hcd.symm, hw⟩, (by rw [ht]; exact hP), va_K.moved hW.alike hK, hD⟩, hS.F ht⟩) hS.2.2 d_Lw_add_16)
set_option maxHeartbeats 4000000 in
set_option maxRecDepth 100000 in
/-- the law's call -/
theorem m_L_callX (l : Launch) (dC : Nat → ClassId) (dI : Nat → Nat → Nat) (cI cB cL cZ cR : ClassId) (hlt : xl_T l) (h rp : Nat) (ps_tape ps_sha ps_stock ps_intake ps_view ps_text ps_maker ps_recording ps_tapeLength ps_lastFault : Value) (g : Nat → Nat) (rf : Nat → Option Nat) (p0 p1 : Int32) (o : Nat) (oo9 : Nat → Int64) (sz : Nat) (hrf : ∀ k, k < 8 → rf k = some (g k)) (hbadr : ¬ ∃ n : Nat, n < 8 ∧ p0 = nI n) : xc_Met l y_Lw_call ws_Lw_call ({ frames := 14, cells := 2, slots := 12, locals := 340 }) (xw_Pl dC dI [(cI, .int), (cB, .byte), (cL, .long), (cZ, .boolean), (cR, .object "PatchStore$Repository")] [.ref h, .int p0, .int p1, .ref o] [(h, .inr (0, [ps_tape, .ref rp, ps_sha, ps_stock, ps_intake, ps_view, ps_text, ps_maker, ps_recording, ps_tapeLength, ps_lastFault])), (rp, .inl (cR, 8, .inr (.inr (.inr (.inr rf))))), (o, .inl (cL, 1, .inr (.inl oo9)))] sz) (xc_Q (S := (Unit) × (Nat → Int64)) (fun v (w : (Unit) × (Nat → Int64)) => (∃ r : Int32, v = some (.int 0) ∧ w.2 0 = r.toInt64 ∧ (fun (_ : Option Value) (_ : Unit) => False) (some (.int r)) w.1) ∨ (∃ C : String, v = some (.int (cd_call C)) ∧ (fun (C : String) (_ : Unit) => C = "java/util/NoSuchElementException") C w.1)) (fun _ _ => False) (fun w t => xw_B dC dI [(cI, .int), (cB, .byte), (cL, .long), (cZ, .boolean), (cR, .object "PatchStore$Repository")] (va_A [(h, .inr (0, [ps_tape, .ref rp, ps_sha, ps_stock, ps_intake, ps_view, ps_text, ps_maker, ps_recording, ps_tapeLength, ps_lastFault])), (rp, .inl (cR, 8, .inr (.inr (.inr (.inr rf))))), (o, .inl (cL, 1, .inr (.inl oo9)))] sz) [(h, .inr (0, [ps_tape, .ref rp, ps_sha, ps_stock, ps_intake, ps_view, ps_text, ps_maker, ps_recording, ps_tapeLength, ps_lastFault])), (rp, .inl (cR, 8, .inr (.inr (.inr (.inr rf))))), (o, .inl (cL, 1, .inr (.inl w.2)))] t) (va_A [(h, .inr (0, [ps_tape, .ref rp, ps_sha, ps_stock, ps_intake, ps_view, ps_text, ps_maker, ps_recording, ps_tapeLength, ps_lastFault])), (rp, .inl (cR, 8, .inr (.inr (.inr (.inr rf))))), (o, .inl (cL, 1, .inr (.inl oo9)))] sz)) 2 12 (va_A [(h, .inr (0, [ps_tape, .ref rp, ps_sha, ps_stock, ps_intake, ps_view, ps_text, ps_maker, ps_recording, ps_tapeLength, ps_lastFault])), (rp, .inl (cR, 8, .inr (.inr (.inr (.inr rf))))), (o, .inl (cL, 1, .inr (.inl oo9)))] sz) := by
  refine xc_ofWH (cc := method_6_code) (maxL := 5) (ret := (Option.some Jvm.ClassFile.FieldType.int)) (hh := [((0 : Nat), (10 : Nat), (13 : Nat), (25 : Nat)), ((0 : Nat), (10 : Nat), (17 : Nat), (19 : Nat)), ((0 : Nat), (10 : Nat), (21 : Nat), (13 : Nat))]) (by decide) rfl ?_
  intro p e s m args below meth c s₁ B hml hrows hv
  obtain ⟨rfl, hsz, hP, hK, hD0, hN, hTh, hNc⟩ := hv
  have hx := B.exec
  have hb := B.bytes
  have hr := B.returns
  have hts0 := atoms_spec (ws := ws_Lw_call) B.pre
  have hts : ∀ w ∈ xg_1, w.before _ s = true := fun w h => hts0 w (List.mem_cons_of_mem _ h)
  have hown : s.vm.findClass "PatchStoreLaw" = some m.cls := findClass_of_methodNamed B.named
  have hlocks := B.notSynchronized
  subst hsz
  have hD := hD0.self (sz := s.heap.size)
  generalize hAe : va_A [(h, .inr (0, [ps_tape, .ref rp, ps_sha, ps_stock, ps_intake, ps_view, ps_text, ps_maker, ps_recording, ps_tapeLength, ps_lastFault])), (rp, .inl (cR, 8, .inr (.inr (.inr (.inr rf))))), (o, .inl (cL, 1, .inr (.inl oo9)))] s.heap.size = A at hD hTh ⊢
  have hA : ∀ q : Nat, s.heap.size ≤ q → A q := fun q h => by rw [← hAe]; exact Or.inr h
  have hS : va_S A s.heap s.heap [] := va_S.rf
  have hl := lv_entry ([.ref h, .int p0, .int p1, .ref o]) (n := 5) (Nat.le_of_ble_eq_true rfl)
  rw [lg_entry_eq]
  generalize (lg_sl ([.ref h, .int p0, .int p1, .ref o]) ++ List.replicate (5 - (lg_sl ([.ref h, .int p0, .int p1, .ref o])).length) Slot.unset).toArray = ls at hl ⊢
  have hl : lv_has ls 5 [(0, .ref h), (1, .int p0), (2, .int p1), (3, .ref o)] := hl
  refine lv_aload_n hx hb d_Lw_call_0 rfl (lv_at hl 3 rfl) ?_
  refine lv_iconst (v := 0) hx hb d_Lw_call_1 (by decide) ?_
  refine lv_aload_n hx hb d_Lw_call_2 rfl (lv_at hl 0 rfl) ?_
  refine lv_iload_n hx hb d_Lw_call_3 rfl (lv_at hl 1 rfl) ?_
  refine lv_iload_n hx hb d_Lw_call_4 rfl (lv_at hl 2 rfl) ?_
  have hPc := hP.sub (ws' := [(h, .inr (0, [ps_tape, .ref rp, ps_sha, ps_stock, ps_intake, ps_view, ps_text, ps_maker, ps_recording, ps_tapeLength, ps_lastFault])), (rp, .inl (cR, 8, .inr (.inr (.inr (.inr rf)))))]) [0, 1] rfl
  have hDc := hD.sub (ws' := [(h, .inr (0, [ps_tape, .ref rp, ps_sha, ps_stock, ps_intake, ps_view, ps_text, ps_maker, ps_recording, ps_tapeLength, ps_lastFault])), (rp, .inl (cR, 8, .inr (.inr (.inr (.inr rf)))))]) [0, 1] (by decide) rfl
  have hFc := va_free (wc := [(h, .inr (0, [ps_tape, .ref rp, ps_sha, ps_stock, ps_intake, ps_view, ps_text, ps_maker, ps_recording, ps_tapeLength, ps_lastFault])), (rp, .inl (cR, 8, .inr (.inr (.inr (.inr rf)))))]) hD hS hA [0, 1] rfl
  refine xc_call (xc_runV (As := [.int p0, .int p1]) (rest := [.int 0, .ref o]) (C := "PatchStore") ⟨hx, hb, hml, hown, hts⟩ (m_PS_callX l dC dI cI cB cL cZ cR hlt h rp ps_tape ps_sha ps_stock ps_intake ps_view ps_text ps_maker ps_recording ps_tapeLength ps_lastFault g rf p0 p1 s.heap.size hrf hbadr) (xc_bOf 2 hts (xg_in gw_990) (xc_Is.code (hts _ gw_990)) rfl rfl (hts _ gw_1) (by decide +kernel) ⟨Nat.le_of_ble_eq_true rfl, Nat.le_of_ble_eq_true rfl⟩) (hts _ gw_987) (hts _ gw_988) (hts _ gw_989) ⟨xw_blindx, va_recv hK hPc (ci := 0) (q0 := 0) rfl rfl, fun U hU hW => ⟨rfl, by rw [hU], by rw [hU]; exact hPc, va_K.moved hW.alike hK, hDc.weaken (fun _ _ _ _ => trivial), xg_N.warm hW hN, by rw [hU]; exact ((hTh.kept (fun a h1 h2 => hS.2.1 a h1 h2)).narrow hFc).moved hW.alike⟩⟩ rfl rfl hl.1 rfl (lv_room (Nat.le_of_ble_eq_true rfl)) d_Lw_call_5 ⟨Nat.le_of_ble_eq_true rfl, Nat.le_of_ble_eq_true rfl⟩) hS (fun q _ h => hFc q h) hFc (fun v9 u t H1 locs ht hvm hw hB hz1 hk1 hS => ?_) (fun x9 C9 u t H1 locs ht hvm hw hex hB hz1 hk1 hS => ?_)
  · skip
    exact False.elim hw
  · have hC9 : C9 = "java/util/NoSuchElementException" := by
      exact hw
    obtain ⟨hP1, hK1, hD1⟩ := hB
    rw [ht] at hP1
    obtain ⟨hP, hD⟩ := va_join (wr := [(o, .inl (cL, 1, .inr (.inl oo9)))]) (w1 := [(h, .inr (0, [ps_tape, .ref rp, ps_sha, ps_stock, ps_intake, ps_view, ps_text, ps_maker, ps_recording, ps_tapeLength, ps_lastFault])), (rp, .inl (cR, 8, .inr (.inr (.inr (.inr rf)))))]) hP hD [0, 1] [2] rfl rfl (by decide) (by decide) hk1 hFc hP1 hD1
    generalize H1 = H at hP hS ht ⊢
    have hP : va_P (dC, dI) classes [(o, .inl (cL, 1, .inr (.inl oo9))), (h, .inr (0, [ps_tape, .ref rp, ps_sha, ps_stock, ps_intake, ps_view, ps_text, ps_maker, ps_recording, ps_tapeLength, ps_lastFault])), (rp, .inl (cR, 8, .inr (.inr (.inr (.inr rf)))))] H := hP
    have hD : va_D A [(o, .inl (cL, 1, .inr (.inl oo9))), (h, .inr (0, [ps_tape, .ref rp, ps_sha, ps_stock, ps_intake, ps_view, ps_text, ps_maker, ps_recording, ps_tapeLength, ps_lastFault])), (rp, .inl (cR, 8, .inr (.inr (.inr (.inr rf)))))] := hD
    obtain rfl := hC9
    have hcd : cd_call "java/util/NoSuchElementException" = 1 := by first | decide | (simp [cd_call]; done)
    refine xc_catch (tgt := 13) hown hrows ht hvm hex ⟨⟨by decide, by decide⟩, by decide, "java/util/NoSuchElementException", hts _ gw_695, Or.inl ⟨va_Nw.use rfl (hN _ gn_706), rfl⟩⟩ ?_
    refine lv_astore (lv' := [(4, .ref x9), (0, .ref h), (1, .int p0), (2, .int p1), (3, .ref o)]) hx hb d_Lw_call_13 hl (by decide) rfl (fun ls hl => ?_)
    refine lv_iconst (v := 1) hx hb d_Lw_call_15 (by decide) ?_
    have hP := hP.sub (ws' := [(h, .inr (0, [ps_tape, .ref rp, ps_sha, ps_stock, ps_intake, ps_view, ps_text, ps_maker, ps_recording, ps_tapeLength, ps_lastFault])), (rp, .inl (cR, 8, .inr (.inr (.inr (.inr rf))))), (o, .inl (cL, 1, .inr (.inl oo9)))]) [1, 2, 0] rfl
    have hD := hD.sub (ws' := [(h, .inr (0, [ps_tape, .ref rp, ps_sha, ps_stock, ps_intake, ps_view, ps_text, ps_maker, ps_recording, ps_tapeLength, ps_lastFault])), (rp, .inl (cR, 8, .inr (.inr (.inr (.inr rf))))), (o, .inl (cL, 1, .inr (.inl oo9)))]) [1, 2, 0] (by decide) rfl
    refine W.widen (k := 2) (n := 12) (Nat.le_of_ble_eq_true rfl) (Nat.le_of_ble_eq_true rfl) ?_
    exact xc_ret (W.iret (v := 1) hx hb hr (fun t ht hW => ⟨Or.inl ⟨_, (u, oo9), rfl, Or.inr ⟨_, congrArg (fun z => some (Value.int z)) hcd.symm, hw⟩, (by rw [ht]; exact hP), va_K.moved hW.alike hK, hD⟩, hS.F ht⟩) hS.2.2 d_Lw_call_16)
set_option maxHeartbeats 4000000 in
set_option maxRecDepth 100000 in
/-- the law's record -/
theorem m_L_recordX (l : Launch) (dC : Nat → ClassId) (dI : Nat → Nat → Nat) (cI cB cL cZ cR : ClassId) (hlt : xl_T l) (h rp : Nat) (ps_tape ps_sha ps_stock ps_intake ps_view ps_text ps_maker ps_recording ps_tapeLength ps_lastFault : Value) (g : Nat → Nat) (rf : Nat → Option Nat) (p0 p1 : Int32) (o : Nat) (oo9 : Nat → Int64) (sz : Nat) (hrf : ∀ k, k < 8 → rf k = some (g k)) (hbadr : ¬ ∃ n : Nat, n < 8 ∧ p0 = nI n) : xc_Met l y_Lw_record ws_Lw_record ({ frames := 14, cells := 2, slots := 12, locals := 340 }) (xw_Pl dC dI [(cI, .int), (cB, .byte), (cL, .long), (cZ, .boolean), (cR, .object "PatchStore$Repository")] [.ref h, .int p0, .int p1, .ref o] [(h, .inr (0, [ps_tape, .ref rp, ps_sha, ps_stock, ps_intake, ps_view, ps_text, ps_maker, ps_recording, ps_tapeLength, ps_lastFault])), (rp, .inl (cR, 8, .inr (.inr (.inr (.inr rf))))), (o, .inl (cL, 1, .inr (.inl oo9)))] sz) (xc_Q (S := (Unit) × (Nat → Int64)) (fun v (w : (Unit) × (Nat → Int64)) => (∃ r : Int32, v = some (.int 0) ∧ w.2 0 = r.toInt64 ∧ (fun (_ : Option Value) (_ : Unit) => False) (some (.int r)) w.1) ∨ (∃ C : String, v = some (.int (cd_record C)) ∧ (fun (C : String) (_ : Unit) => C = "java/util/NoSuchElementException") C w.1)) (fun _ _ => False) (fun w t => xw_B dC dI [(cI, .int), (cB, .byte), (cL, .long), (cZ, .boolean), (cR, .object "PatchStore$Repository")] (va_A [(h, .inr (0, [ps_tape, .ref rp, ps_sha, ps_stock, ps_intake, ps_view, ps_text, ps_maker, ps_recording, ps_tapeLength, ps_lastFault])), (rp, .inl (cR, 8, .inr (.inr (.inr (.inr rf))))), (o, .inl (cL, 1, .inr (.inl oo9)))] sz) [(h, .inr (0, [ps_tape, .ref rp, ps_sha, ps_stock, ps_intake, ps_view, ps_text, ps_maker, ps_recording, ps_tapeLength, ps_lastFault])), (rp, .inl (cR, 8, .inr (.inr (.inr (.inr rf))))), (o, .inl (cL, 1, .inr (.inl w.2)))] t) (va_A [(h, .inr (0, [ps_tape, .ref rp, ps_sha, ps_stock, ps_intake, ps_view, ps_text, ps_maker, ps_recording, ps_tapeLength, ps_lastFault])), (rp, .inl (cR, 8, .inr (.inr (.inr (.inr rf))))), (o, .inl (cL, 1, .inr (.inl oo9)))] sz)) 2 12 (va_A [(h, .inr (0, [ps_tape, .ref rp, ps_sha, ps_stock, ps_intake, ps_view, ps_text, ps_maker, ps_recording, ps_tapeLength, ps_lastFault])), (rp, .inl (cR, 8, .inr (.inr (.inr (.inr rf))))), (o, .inl (cL, 1, .inr (.inl oo9)))] sz) := by
  refine xc_ofWH (cc := method_7_code) (maxL := 5) (ret := (Option.some Jvm.ClassFile.FieldType.int)) (hh := [((0 : Nat), (10 : Nat), (13 : Nat), (25 : Nat)), ((0 : Nat), (10 : Nat), (17 : Nat), (19 : Nat)), ((0 : Nat), (10 : Nat), (21 : Nat), (33 : Nat)), ((0 : Nat), (10 : Nat), (25 : Nat), (13 : Nat))]) (by decide) rfl ?_
  intro p e s m args below meth c s₁ B hml hrows hv
  obtain ⟨rfl, hsz, hP, hK, hD0, hN, hTh, hNc⟩ := hv
  have hx := B.exec
  have hb := B.bytes
  have hr := B.returns
  have hts0 := atoms_spec (ws := ws_Lw_record) B.pre
  have hts : ∀ w ∈ xg_1, w.before _ s = true := fun w h => hts0 w (List.mem_cons_of_mem _ h)
  have hown : s.vm.findClass "PatchStoreLaw" = some m.cls := findClass_of_methodNamed B.named
  have hlocks := B.notSynchronized
  subst hsz
  have hD := hD0.self (sz := s.heap.size)
  generalize hAe : va_A [(h, .inr (0, [ps_tape, .ref rp, ps_sha, ps_stock, ps_intake, ps_view, ps_text, ps_maker, ps_recording, ps_tapeLength, ps_lastFault])), (rp, .inl (cR, 8, .inr (.inr (.inr (.inr rf))))), (o, .inl (cL, 1, .inr (.inl oo9)))] s.heap.size = A at hD hTh ⊢
  have hA : ∀ q : Nat, s.heap.size ≤ q → A q := fun q h => by rw [← hAe]; exact Or.inr h
  have hS : va_S A s.heap s.heap [] := va_S.rf
  have hl := lv_entry ([.ref h, .int p0, .int p1, .ref o]) (n := 5) (Nat.le_of_ble_eq_true rfl)
  rw [lg_entry_eq]
  generalize (lg_sl ([.ref h, .int p0, .int p1, .ref o]) ++ List.replicate (5 - (lg_sl ([.ref h, .int p0, .int p1, .ref o])).length) Slot.unset).toArray = ls at hl ⊢
  have hl : lv_has ls 5 [(0, .ref h), (1, .int p0), (2, .int p1), (3, .ref o)] := hl
  refine lv_aload_n hx hb d_Lw_record_0 rfl (lv_at hl 3 rfl) ?_
  refine lv_iconst (v := 0) hx hb d_Lw_record_1 (by decide) ?_
  refine lv_aload_n hx hb d_Lw_record_2 rfl (lv_at hl 0 rfl) ?_
  refine lv_iload_n hx hb d_Lw_record_3 rfl (lv_at hl 1 rfl) ?_
  refine lv_iload_n hx hb d_Lw_record_4 rfl (lv_at hl 2 rfl) ?_
  have hPc := hP.sub (ws' := [(h, .inr (0, [ps_tape, .ref rp, ps_sha, ps_stock, ps_intake, ps_view, ps_text, ps_maker, ps_recording, ps_tapeLength, ps_lastFault])), (rp, .inl (cR, 8, .inr (.inr (.inr (.inr rf)))))]) [0, 1] rfl
  have hDc := hD.sub (ws' := [(h, .inr (0, [ps_tape, .ref rp, ps_sha, ps_stock, ps_intake, ps_view, ps_text, ps_maker, ps_recording, ps_tapeLength, ps_lastFault])), (rp, .inl (cR, 8, .inr (.inr (.inr (.inr rf)))))]) [0, 1] (by decide) rfl
  have hFc := va_free (wc := [(h, .inr (0, [ps_tape, .ref rp, ps_sha, ps_stock, ps_intake, ps_view, ps_text, ps_maker, ps_recording, ps_tapeLength, ps_lastFault])), (rp, .inl (cR, 8, .inr (.inr (.inr (.inr rf)))))]) hD hS hA [0, 1] rfl
  refine xc_call (xc_runV (As := [.int p0, .int p1]) (rest := [.int 0, .ref o]) (C := "PatchStore") ⟨hx, hb, hml, hown, hts⟩ (m_PS_recordX l dC dI cI cB cL cZ cR hlt h rp ps_tape ps_sha ps_stock ps_intake ps_view ps_text ps_maker ps_recording ps_tapeLength ps_lastFault g rf p0 p1 s.heap.size hrf hbadr) (xc_bOf 2 hts (xg_in gw_1039) (xc_Is.code (hts _ gw_1039)) rfl rfl (hts _ gw_1) (by decide +kernel) ⟨Nat.le_of_ble_eq_true rfl, Nat.le_of_ble_eq_true rfl⟩) (hts _ gw_1036) (hts _ gw_1037) (hts _ gw_1038) ⟨xw_blindx, va_recv hK hPc (ci := 0) (q0 := 0) rfl rfl, fun U hU hW => ⟨rfl, by rw [hU], by rw [hU]; exact hPc, va_K.moved hW.alike hK, hDc.weaken (fun _ _ _ _ => trivial), xg_N.warm hW hN, by rw [hU]; exact ((hTh.kept (fun a h1 h2 => hS.2.1 a h1 h2)).narrow hFc).moved hW.alike⟩⟩ rfl rfl hl.1 rfl (lv_room (Nat.le_of_ble_eq_true rfl)) d_Lw_record_5 ⟨Nat.le_of_ble_eq_true rfl, Nat.le_of_ble_eq_true rfl⟩) hS (fun q _ h => hFc q h) hFc (fun v9 u t H1 locs ht hvm hw hB hz1 hk1 hS => ?_) (fun x9 C9 u t H1 locs ht hvm hw hex hB hz1 hk1 hS => ?_)
  · skip
    exact False.elim hw
  · have hC9 : C9 = "java/util/NoSuchElementException" := by
      exact hw
    obtain ⟨hP1, hK1, hD1⟩ := hB
    rw [ht] at hP1
    obtain ⟨hP, hD⟩ := va_join (wr := [(o, .inl (cL, 1, .inr (.inl oo9)))]) (w1 := [(h, .inr (0, [ps_tape, .ref rp, ps_sha, ps_stock, ps_intake, ps_view, ps_text, ps_maker, ps_recording, ps_tapeLength, ps_lastFault])), (rp, .inl (cR, 8, .inr (.inr (.inr (.inr rf)))))]) hP hD [0, 1] [2] rfl rfl (by decide) (by decide) hk1 hFc hP1 hD1
    generalize H1 = H at hP hS ht ⊢
    have hP : va_P (dC, dI) classes [(o, .inl (cL, 1, .inr (.inl oo9))), (h, .inr (0, [ps_tape, .ref rp, ps_sha, ps_stock, ps_intake, ps_view, ps_text, ps_maker, ps_recording, ps_tapeLength, ps_lastFault])), (rp, .inl (cR, 8, .inr (.inr (.inr (.inr rf)))))] H := hP
    have hD : va_D A [(o, .inl (cL, 1, .inr (.inl oo9))), (h, .inr (0, [ps_tape, .ref rp, ps_sha, ps_stock, ps_intake, ps_view, ps_text, ps_maker, ps_recording, ps_tapeLength, ps_lastFault])), (rp, .inl (cR, 8, .inr (.inr (.inr (.inr rf)))))] := hD
    obtain rfl := hC9
    have hcd : cd_record "java/util/NoSuchElementException" = 1 := by first | decide | (simp [cd_record]; done)
    refine xc_catch (tgt := 13) hown hrows ht hvm hex ⟨⟨by decide, by decide⟩, by decide, "java/util/NoSuchElementException", hts _ gw_695, Or.inl ⟨va_Nw.use rfl (hN _ gn_706), rfl⟩⟩ ?_
    refine lv_astore (lv' := [(4, .ref x9), (0, .ref h), (1, .int p0), (2, .int p1), (3, .ref o)]) hx hb d_Lw_record_13 hl (by decide) rfl (fun ls hl => ?_)
    refine lv_iconst (v := 1) hx hb d_Lw_record_15 (by decide) ?_
    have hP := hP.sub (ws' := [(h, .inr (0, [ps_tape, .ref rp, ps_sha, ps_stock, ps_intake, ps_view, ps_text, ps_maker, ps_recording, ps_tapeLength, ps_lastFault])), (rp, .inl (cR, 8, .inr (.inr (.inr (.inr rf))))), (o, .inl (cL, 1, .inr (.inl oo9)))]) [1, 2, 0] rfl
    have hD := hD.sub (ws' := [(h, .inr (0, [ps_tape, .ref rp, ps_sha, ps_stock, ps_intake, ps_view, ps_text, ps_maker, ps_recording, ps_tapeLength, ps_lastFault])), (rp, .inl (cR, 8, .inr (.inr (.inr (.inr rf))))), (o, .inl (cL, 1, .inr (.inl oo9)))]) [1, 2, 0] (by decide) rfl
    refine W.widen (k := 2) (n := 12) (Nat.le_of_ble_eq_true rfl) (Nat.le_of_ble_eq_true rfl) ?_
    exact xc_ret (W.iret (v := 1) hx hb hr (fun t ht hW => ⟨Or.inl ⟨_, (u, oo9), rfl, Or.inr ⟨_, congrArg (fun z => some (Value.int z)) hcd.symm, hw⟩, (by rw [ht]; exact hP), va_K.moved hW.alike hK, hD⟩, hS.F ht⟩) hS.2.2 d_Lw_record_16)
set_option maxHeartbeats 4000000 in
set_option maxRecDepth 100000 in
/-- the law's drop -/
theorem m_L_dropX (l : Launch) (dC : Nat → ClassId) (dI : Nat → Nat → Nat) (cI cB cL cZ cR : ClassId) (hlt : xl_T l) (h rp : Nat) (ps_tape ps_sha ps_stock ps_intake ps_view ps_text ps_maker ps_recording ps_tapeLength ps_lastFault : Value) (g : Nat → Nat) (rf : Nat → Option Nat) (p0 p1 : Int32) (o : Nat) (oo9 : Nat → Int64) (sz : Nat) (hrf : ∀ k, k < 8 → rf k = some (g k)) (hbadr : ¬ ∃ n : Nat, n < 8 ∧ p0 = nI n) : xc_Met l y_Lw_drop ws_Lw_drop ({ frames := 14, cells := 2, slots := 12, locals := 340 }) (xw_Pl dC dI [(cI, .int), (cB, .byte), (cL, .long), (cZ, .boolean), (cR, .object "PatchStore$Repository")] [.ref h, .int p0, .int p1, .ref o] [(h, .inr (0, [ps_tape, .ref rp, ps_sha, ps_stock, ps_intake, ps_view, ps_text, ps_maker, ps_recording, ps_tapeLength, ps_lastFault])), (rp, .inl (cR, 8, .inr (.inr (.inr (.inr rf))))), (o, .inl (cL, 1, .inr (.inl oo9)))] sz) (xc_Q (S := (Unit) × (Nat → Int64)) (fun v (w : (Unit) × (Nat → Int64)) => (∃ r : Int32, v = some (.int 0) ∧ w.2 0 = r.toInt64 ∧ (fun (_ : Option Value) (_ : Unit) => False) (some (.int r)) w.1) ∨ (∃ C : String, v = some (.int (cd_drop C)) ∧ (fun (C : String) (_ : Unit) => C = "java/util/NoSuchElementException") C w.1)) (fun _ _ => False) (fun w t => xw_B dC dI [(cI, .int), (cB, .byte), (cL, .long), (cZ, .boolean), (cR, .object "PatchStore$Repository")] (va_A [(h, .inr (0, [ps_tape, .ref rp, ps_sha, ps_stock, ps_intake, ps_view, ps_text, ps_maker, ps_recording, ps_tapeLength, ps_lastFault])), (rp, .inl (cR, 8, .inr (.inr (.inr (.inr rf))))), (o, .inl (cL, 1, .inr (.inl oo9)))] sz) [(h, .inr (0, [ps_tape, .ref rp, ps_sha, ps_stock, ps_intake, ps_view, ps_text, ps_maker, ps_recording, ps_tapeLength, ps_lastFault])), (rp, .inl (cR, 8, .inr (.inr (.inr (.inr rf))))), (o, .inl (cL, 1, .inr (.inl w.2)))] t) (va_A [(h, .inr (0, [ps_tape, .ref rp, ps_sha, ps_stock, ps_intake, ps_view, ps_text, ps_maker, ps_recording, ps_tapeLength, ps_lastFault])), (rp, .inl (cR, 8, .inr (.inr (.inr (.inr rf))))), (o, .inl (cL, 1, .inr (.inl oo9)))] sz)) 2 12 (va_A [(h, .inr (0, [ps_tape, .ref rp, ps_sha, ps_stock, ps_intake, ps_view, ps_text, ps_maker, ps_recording, ps_tapeLength, ps_lastFault])), (rp, .inl (cR, 8, .inr (.inr (.inr (.inr rf))))), (o, .inl (cL, 1, .inr (.inl oo9)))] sz) := by
  refine xc_ofWH (cc := method_11_code) (maxL := 5) (ret := (Option.some Jvm.ClassFile.FieldType.int)) (hh := [((0 : Nat), (10 : Nat), (13 : Nat), (25 : Nat)), ((0 : Nat), (10 : Nat), (17 : Nat), (13 : Nat))]) (by decide) rfl ?_
  intro p e s m args below meth c s₁ B hml hrows hv
  obtain ⟨rfl, hsz, hP, hK, hD0, hN, hTh, hNc⟩ := hv
  have hx := B.exec
  have hb := B.bytes
  have hr := B.returns
  have hts0 := atoms_spec (ws := ws_Lw_drop) B.pre
  have hts : ∀ w ∈ xg_1, w.before _ s = true := fun w h => hts0 w (List.mem_cons_of_mem _ h)
  have hown : s.vm.findClass "PatchStoreLaw" = some m.cls := findClass_of_methodNamed B.named
  have hlocks := B.notSynchronized
  subst hsz
  have hD := hD0.self (sz := s.heap.size)
  generalize hAe : va_A [(h, .inr (0, [ps_tape, .ref rp, ps_sha, ps_stock, ps_intake, ps_view, ps_text, ps_maker, ps_recording, ps_tapeLength, ps_lastFault])), (rp, .inl (cR, 8, .inr (.inr (.inr (.inr rf))))), (o, .inl (cL, 1, .inr (.inl oo9)))] s.heap.size = A at hD hTh ⊢
  have hA : ∀ q : Nat, s.heap.size ≤ q → A q := fun q h => by rw [← hAe]; exact Or.inr h
  have hS : va_S A s.heap s.heap [] := va_S.rf
  have hl := lv_entry ([.ref h, .int p0, .int p1, .ref o]) (n := 5) (Nat.le_of_ble_eq_true rfl)
  rw [lg_entry_eq]
  generalize (lg_sl ([.ref h, .int p0, .int p1, .ref o]) ++ List.replicate (5 - (lg_sl ([.ref h, .int p0, .int p1, .ref o])).length) Slot.unset).toArray = ls at hl ⊢
  have hl : lv_has ls 5 [(0, .ref h), (1, .int p0), (2, .int p1), (3, .ref o)] := hl
  refine lv_aload_n hx hb d_Lw_drop_0 rfl (lv_at hl 3 rfl) ?_
  refine lv_iconst (v := 0) hx hb d_Lw_drop_1 (by decide) ?_
  refine lv_aload_n hx hb d_Lw_drop_2 rfl (lv_at hl 0 rfl) ?_
  refine lv_iload_n hx hb d_Lw_drop_3 rfl (lv_at hl 1 rfl) ?_
  refine lv_iload_n hx hb d_Lw_drop_4 rfl (lv_at hl 2 rfl) ?_
  have hPc := hP.sub (ws' := [(h, .inr (0, [ps_tape, .ref rp, ps_sha, ps_stock, ps_intake, ps_view, ps_text, ps_maker, ps_recording, ps_tapeLength, ps_lastFault])), (rp, .inl (cR, 8, .inr (.inr (.inr (.inr rf)))))]) [0, 1] rfl
  have hDc := hD.sub (ws' := [(h, .inr (0, [ps_tape, .ref rp, ps_sha, ps_stock, ps_intake, ps_view, ps_text, ps_maker, ps_recording, ps_tapeLength, ps_lastFault])), (rp, .inl (cR, 8, .inr (.inr (.inr (.inr rf)))))]) [0, 1] (by decide) rfl
  have hFc := va_free (wc := [(h, .inr (0, [ps_tape, .ref rp, ps_sha, ps_stock, ps_intake, ps_view, ps_text, ps_maker, ps_recording, ps_tapeLength, ps_lastFault])), (rp, .inl (cR, 8, .inr (.inr (.inr (.inr rf)))))]) hD hS hA [0, 1] rfl
  refine xc_call (xc_runV (As := [.int p0, .int p1]) (rest := [.int 0, .ref o]) (C := "PatchStore") ⟨hx, hb, hml, hown, hts⟩ (m_PS_dropX l dC dI cI cB cL cZ cR hlt h rp ps_tape ps_sha ps_stock ps_intake ps_view ps_text ps_maker ps_recording ps_tapeLength ps_lastFault g rf p0 p1 s.heap.size hrf hbadr) (xc_bOf 2 hts (xg_in gw_1247) (xc_Is.code (hts _ gw_1247)) rfl rfl (hts _ gw_1) (by decide +kernel) ⟨Nat.le_of_ble_eq_true rfl, Nat.le_of_ble_eq_true rfl⟩) (hts _ gw_1244) (hts _ gw_1245) (hts _ gw_1246) ⟨xw_blindx, va_recv hK hPc (ci := 0) (q0 := 0) rfl rfl, fun U hU hW => ⟨rfl, by rw [hU], by rw [hU]; exact hPc, va_K.moved hW.alike hK, hDc.weaken (fun _ _ _ _ => trivial), xg_N.warm hW hN, by rw [hU]; exact ((hTh.kept (fun a h1 h2 => hS.2.1 a h1 h2)).narrow hFc).moved hW.alike⟩⟩ rfl rfl hl.1 rfl (lv_room (Nat.le_of_ble_eq_true rfl)) d_Lw_drop_5 ⟨Nat.le_of_ble_eq_true rfl, Nat.le_of_ble_eq_true rfl⟩) hS (fun q _ h => hFc q h) hFc (fun v9 u t H1 locs ht hvm hw hB hz1 hk1 hS => ?_) (fun x9 C9 u t H1 locs ht hvm hw hex hB hz1 hk1 hS => ?_)
  · skip
    exact False.elim hw
  · have hC9 : C9 = "java/util/NoSuchElementException" := by
      exact hw
    obtain ⟨hP1, hK1, hD1⟩ := hB
    rw [ht] at hP1
    obtain ⟨hP, hD⟩ := va_join (wr := [(o, .inl (cL, 1, .inr (.inl oo9)))]) (w1 := [(h, .inr (0, [ps_tape, .ref rp, ps_sha, ps_stock, ps_intake, ps_view, ps_text, ps_maker, ps_recording, ps_tapeLength, ps_lastFault])), (rp, .inl (cR, 8, .inr (.inr (.inr (.inr rf)))))]) hP hD [0, 1] [2] rfl rfl (by decide) (by decide) hk1 hFc hP1 hD1
    generalize H1 = H at hP hS ht ⊢
    have hP : va_P (dC, dI) classes [(o, .inl (cL, 1, .inr (.inl oo9))), (h, .inr (0, [ps_tape, .ref rp, ps_sha, ps_stock, ps_intake, ps_view, ps_text, ps_maker, ps_recording, ps_tapeLength, ps_lastFault])), (rp, .inl (cR, 8, .inr (.inr (.inr (.inr rf)))))] H := hP
    have hD : va_D A [(o, .inl (cL, 1, .inr (.inl oo9))), (h, .inr (0, [ps_tape, .ref rp, ps_sha, ps_stock, ps_intake, ps_view, ps_text, ps_maker, ps_recording, ps_tapeLength, ps_lastFault])), (rp, .inl (cR, 8, .inr (.inr (.inr (.inr rf)))))] := hD
    obtain rfl := hC9
    have hcd : cd_drop "java/util/NoSuchElementException" = 1 := by first | decide | (simp [cd_drop]; done)
    refine xc_catch (tgt := 13) hown hrows ht hvm hex ⟨⟨by decide, by decide⟩, by decide, "java/util/NoSuchElementException", hts _ gw_695, Or.inl ⟨va_Nw.use rfl (hN _ gn_706), rfl⟩⟩ ?_
    refine lv_astore (lv' := [(4, .ref x9), (0, .ref h), (1, .int p0), (2, .int p1), (3, .ref o)]) hx hb d_Lw_drop_13 hl (by decide) rfl (fun ls hl => ?_)
    refine lv_iconst (v := 1) hx hb d_Lw_drop_15 (by decide) ?_
    have hP := hP.sub (ws' := [(h, .inr (0, [ps_tape, .ref rp, ps_sha, ps_stock, ps_intake, ps_view, ps_text, ps_maker, ps_recording, ps_tapeLength, ps_lastFault])), (rp, .inl (cR, 8, .inr (.inr (.inr (.inr rf))))), (o, .inl (cL, 1, .inr (.inl oo9)))]) [1, 2, 0] rfl
    have hD := hD.sub (ws' := [(h, .inr (0, [ps_tape, .ref rp, ps_sha, ps_stock, ps_intake, ps_view, ps_text, ps_maker, ps_recording, ps_tapeLength, ps_lastFault])), (rp, .inl (cR, 8, .inr (.inr (.inr (.inr rf))))), (o, .inl (cL, 1, .inr (.inl oo9)))]) [1, 2, 0] (by decide) rfl
    refine W.widen (k := 2) (n := 12) (Nat.le_of_ble_eq_true rfl) (Nat.le_of_ble_eq_true rfl) ?_
    exact xc_ret (W.iret (v := 1) hx hb hr (fun t ht hW => ⟨Or.inl ⟨_, (u, oo9), rfl, Or.inr ⟨_, congrArg (fun z => some (Value.int z)) hcd.symm, hw⟩, (by rw [ht]; exact hP), va_K.moved hW.alike hK, hD⟩, hS.F ht⟩) hS.2.2 d_Lw_drop_16)
set_option maxHeartbeats 4000000 in
set_option maxRecDepth 100000 in
/-- the law's has -/
theorem m_L_hasX (l : Launch) (dC : Nat → ClassId) (dI : Nat → Nat → Nat) (cI cB cL cZ cR : ClassId) (hlt : xl_T l) (h rp : Nat) (ps_tape ps_sha ps_stock ps_intake ps_view ps_text ps_maker ps_recording ps_tapeLength ps_lastFault : Value) (g : Nat → Nat) (rf : Nat → Option Nat) (p0 p1 p2 : Int32) (o : Nat) (oo9 : Nat → Int64) (sz : Nat) (hrf : ∀ k, k < 8 → rf k = some (g k)) (hbadr : ¬ ∃ n : Nat, n < 8 ∧ p0 = nI n) : xc_Met l y_Lw_has ws_Lw_has ({ frames := 14, cells := 2, slots := 12, locals := 340 }) (xw_Pl dC dI [(cI, .int), (cB, .byte), (cL, .long), (cZ, .boolean), (cR, .object "PatchStore$Repository")] [.ref h, .int p0, .int p1, .int p2, .ref o] [(h, .inr (0, [ps_tape, .ref rp, ps_sha, ps_stock, ps_intake, ps_view, ps_text, ps_maker, ps_recording, ps_tapeLength, ps_lastFault])), (rp, .inl (cR, 8, .inr (.inr (.inr (.inr rf))))), (o, .inl (cL, 1, .inr (.inl oo9)))] sz) (xc_Q (S := (Unit) × (Nat → Int64)) (fun v (w : (Unit) × (Nat → Int64)) => (∃ r : Int32, v = some (.int 0) ∧ w.2 0 = r.toInt64 ∧ (fun (_ : Option Value) (_ : Unit) => False) (some (.int r)) w.1) ∨ (∃ C : String, v = some (.int (cd_has C)) ∧ (fun (C : String) (_ : Unit) => C = "java/util/NoSuchElementException") C w.1)) (fun _ _ => False) (fun w t => xw_B dC dI [(cI, .int), (cB, .byte), (cL, .long), (cZ, .boolean), (cR, .object "PatchStore$Repository")] (va_A [(h, .inr (0, [ps_tape, .ref rp, ps_sha, ps_stock, ps_intake, ps_view, ps_text, ps_maker, ps_recording, ps_tapeLength, ps_lastFault])), (rp, .inl (cR, 8, .inr (.inr (.inr (.inr rf))))), (o, .inl (cL, 1, .inr (.inl oo9)))] sz) [(h, .inr (0, [ps_tape, .ref rp, ps_sha, ps_stock, ps_intake, ps_view, ps_text, ps_maker, ps_recording, ps_tapeLength, ps_lastFault])), (rp, .inl (cR, 8, .inr (.inr (.inr (.inr rf))))), (o, .inl (cL, 1, .inr (.inl w.2)))] t) (va_A [(h, .inr (0, [ps_tape, .ref rp, ps_sha, ps_stock, ps_intake, ps_view, ps_text, ps_maker, ps_recording, ps_tapeLength, ps_lastFault])), (rp, .inl (cR, 8, .inr (.inr (.inr (.inr rf))))), (o, .inl (cL, 1, .inr (.inl oo9)))] sz)) 2 12 (va_A [(h, .inr (0, [ps_tape, .ref rp, ps_sha, ps_stock, ps_intake, ps_view, ps_text, ps_maker, ps_recording, ps_tapeLength, ps_lastFault])), (rp, .inl (cR, 8, .inr (.inr (.inr (.inr rf))))), (o, .inl (cL, 1, .inr (.inl oo9)))] sz) := by
  refine xc_ofWH (cc := method_12_code) (maxL := 6) (ret := (Option.some Jvm.ClassFile.FieldType.int)) (hh := [((0 : Nat), (12 : Nat), (15 : Nat), (25 : Nat)), ((0 : Nat), (12 : Nat), (19 : Nat), (19 : Nat))]) (by decide) rfl ?_
  intro p e s m args below meth c s₁ B hml hrows hv
  obtain ⟨rfl, hsz, hP, hK, hD0, hN, hTh, hNc⟩ := hv
  have hx := B.exec
  have hb := B.bytes
  have hr := B.returns
  have hts0 := atoms_spec (ws := ws_Lw_has) B.pre
  have hts : ∀ w ∈ xg_1, w.before _ s = true := fun w h => hts0 w (List.mem_cons_of_mem _ h)
  have hown : s.vm.findClass "PatchStoreLaw" = some m.cls := findClass_of_methodNamed B.named
  have hlocks := B.notSynchronized
  subst hsz
  have hD := hD0.self (sz := s.heap.size)
  generalize hAe : va_A [(h, .inr (0, [ps_tape, .ref rp, ps_sha, ps_stock, ps_intake, ps_view, ps_text, ps_maker, ps_recording, ps_tapeLength, ps_lastFault])), (rp, .inl (cR, 8, .inr (.inr (.inr (.inr rf))))), (o, .inl (cL, 1, .inr (.inl oo9)))] s.heap.size = A at hD hTh ⊢
  have hA : ∀ q : Nat, s.heap.size ≤ q → A q := fun q h => by rw [← hAe]; exact Or.inr h
  have hS : va_S A s.heap s.heap [] := va_S.rf
  have hl := lv_entry ([.ref h, .int p0, .int p1, .int p2, .ref o]) (n := 6) (Nat.le_of_ble_eq_true rfl)
  rw [lg_entry_eq]
  generalize (lg_sl ([.ref h, .int p0, .int p1, .int p2, .ref o]) ++ List.replicate (6 - (lg_sl ([.ref h, .int p0, .int p1, .int p2, .ref o])).length) Slot.unset).toArray = ls at hl ⊢
  have hl : lv_has ls 6 [(0, .ref h), (1, .int p0), (2, .int p1), (3, .int p2), (4, .ref o)] := hl
  refine lv_aload hx hb d_Lw_has_0 (lv_at hl 4 rfl) ?_
  refine lv_iconst (v := 0) hx hb d_Lw_has_2 (by decide) ?_
  refine lv_aload_n hx hb d_Lw_has_3 rfl (lv_at hl 0 rfl) ?_
  refine lv_iload_n hx hb d_Lw_has_4 rfl (lv_at hl 1 rfl) ?_
  refine lv_iload_n hx hb d_Lw_has_5 rfl (lv_at hl 2 rfl) ?_
  refine lv_iload_n hx hb d_Lw_has_6 rfl (lv_at hl 3 rfl) ?_
  have hPc := hP.sub (ws' := [(h, .inr (0, [ps_tape, .ref rp, ps_sha, ps_stock, ps_intake, ps_view, ps_text, ps_maker, ps_recording, ps_tapeLength, ps_lastFault])), (rp, .inl (cR, 8, .inr (.inr (.inr (.inr rf)))))]) [0, 1] rfl
  have hDc := hD.sub (ws' := [(h, .inr (0, [ps_tape, .ref rp, ps_sha, ps_stock, ps_intake, ps_view, ps_text, ps_maker, ps_recording, ps_tapeLength, ps_lastFault])), (rp, .inl (cR, 8, .inr (.inr (.inr (.inr rf)))))]) [0, 1] (by decide) rfl
  have hFc := va_free (wc := [(h, .inr (0, [ps_tape, .ref rp, ps_sha, ps_stock, ps_intake, ps_view, ps_text, ps_maker, ps_recording, ps_tapeLength, ps_lastFault])), (rp, .inl (cR, 8, .inr (.inr (.inr (.inr rf)))))]) hD hS hA [0, 1] rfl
  refine xc_call (xc_runV (As := [.int p0, .int p1, .int p2]) (rest := [.int 0, .ref o]) (C := "PatchStore") ⟨hx, hb, hml, hown, hts⟩ (m_PS_hasX l dC dI cI cB cL cZ cR hlt h rp ps_tape ps_sha ps_stock ps_intake ps_view ps_text ps_maker ps_recording ps_tapeLength ps_lastFault g rf p0 p1 p2 s.heap.size hrf hbadr) (xc_bOf 3 hts (xg_in gw_1262) (xc_Is.code (hts _ gw_1262)) rfl rfl (hts _ gw_1) (by decide +kernel) ⟨Nat.le_of_ble_eq_true rfl, Nat.le_of_ble_eq_true rfl⟩) (hts _ gw_1259) (hts _ gw_1260) (hts _ gw_1261) ⟨xw_blindx, va_recv hK hPc (ci := 0) (q0 := 0) rfl rfl, fun U hU hW => ⟨rfl, by rw [hU], by rw [hU]; exact hPc, va_K.moved hW.alike hK, hDc.weaken (fun _ _ _ _ => trivial), xg_N.warm hW hN, by rw [hU]; exact ((hTh.kept (fun a h1 h2 => hS.2.1 a h1 h2)).narrow hFc).moved hW.alike⟩⟩ rfl rfl hl.1 rfl (lv_room (Nat.le_of_ble_eq_true rfl)) d_Lw_has_7 ⟨Nat.le_of_ble_eq_true rfl, Nat.le_of_ble_eq_true rfl⟩) hS (fun q _ h => hFc q h) hFc (fun v9 u t H1 locs ht hvm hw hB hz1 hk1 hS => ?_) (fun x9 C9 u t H1 locs ht hvm hw hex hB hz1 hk1 hS => ?_)
  · skip
    exact False.elim hw
  · have hC9 : C9 = "java/util/NoSuchElementException" := by
      exact hw
    obtain ⟨hP1, hK1, hD1⟩ := hB
    rw [ht] at hP1
    obtain ⟨hP, hD⟩ := va_join (wr := [(o, .inl (cL, 1, .inr (.inl oo9)))]) (w1 := [(h, .inr (0, [ps_tape, .ref rp, ps_sha, ps_stock, ps_intake, ps_view, ps_text, ps_maker, ps_recording, ps_tapeLength, ps_lastFault])), (rp, .inl (cR, 8, .inr (.inr (.inr (.inr rf)))))]) hP hD [0, 1] [2] rfl rfl (by decide) (by decide) hk1 hFc hP1 hD1
    generalize H1 = H at hP hS ht ⊢
    have hP : va_P (dC, dI) classes [(o, .inl (cL, 1, .inr (.inl oo9))), (h, .inr (0, [ps_tape, .ref rp, ps_sha, ps_stock, ps_intake, ps_view, ps_text, ps_maker, ps_recording, ps_tapeLength, ps_lastFault])), (rp, .inl (cR, 8, .inr (.inr (.inr (.inr rf)))))] H := hP
    have hD : va_D A [(o, .inl (cL, 1, .inr (.inl oo9))), (h, .inr (0, [ps_tape, .ref rp, ps_sha, ps_stock, ps_intake, ps_view, ps_text, ps_maker, ps_recording, ps_tapeLength, ps_lastFault])), (rp, .inl (cR, 8, .inr (.inr (.inr (.inr rf)))))] := hD
    obtain rfl := hC9
    have hcd : cd_has "java/util/NoSuchElementException" = 1 := by first | decide | (simp [cd_has]; done)
    refine xc_catch (tgt := 15) hown hrows ht hvm hex ⟨⟨by decide, by decide⟩, by decide, "java/util/NoSuchElementException", hts _ gw_695, Or.inl ⟨va_Nw.use rfl (hN _ gn_706), rfl⟩⟩ ?_
    refine lv_astore (lv' := [(5, .ref x9), (0, .ref h), (1, .int p0), (2, .int p1), (3, .int p2), (4, .ref o)]) hx hb d_Lw_has_15 hl (by decide) rfl (fun ls hl => ?_)
    refine lv_iconst (v := 1) hx hb d_Lw_has_17 (by decide) ?_
    have hP := hP.sub (ws' := [(h, .inr (0, [ps_tape, .ref rp, ps_sha, ps_stock, ps_intake, ps_view, ps_text, ps_maker, ps_recording, ps_tapeLength, ps_lastFault])), (rp, .inl (cR, 8, .inr (.inr (.inr (.inr rf))))), (o, .inl (cL, 1, .inr (.inl oo9)))]) [1, 2, 0] rfl
    have hD := hD.sub (ws' := [(h, .inr (0, [ps_tape, .ref rp, ps_sha, ps_stock, ps_intake, ps_view, ps_text, ps_maker, ps_recording, ps_tapeLength, ps_lastFault])), (rp, .inl (cR, 8, .inr (.inr (.inr (.inr rf))))), (o, .inl (cL, 1, .inr (.inl oo9)))]) [1, 2, 0] (by decide) rfl
    refine W.widen (k := 2) (n := 12) (Nat.le_of_ble_eq_true rfl) (Nat.le_of_ble_eq_true rfl) ?_
    exact xc_ret (W.iret (v := 1) hx hb hr (fun t ht hW => ⟨Or.inl ⟨_, (u, oo9), rfl, Or.inr ⟨_, congrArg (fun z => some (Value.int z)) hcd.symm, hw⟩, (by rw [ht]; exact hP), va_K.moved hW.alike hK, hD⟩, hS.F ht⟩) hS.2.2 d_Lw_has_18)
set_option maxHeartbeats 4000000 in
set_option maxRecDepth 100000 in
/-- the law's state -/
theorem m_L_stateX (l : Launch) (dC : Nat → ClassId) (dI : Nat → Nat → Nat) (cI cB cL cZ cR : ClassId) (hlt : xl_T l) (h rp : Nat) (ps_tape ps_sha ps_stock ps_intake ps_view ps_text ps_maker ps_recording ps_tapeLength ps_lastFault : Value) (g : Nat → Nat) (rf : Nat → Option Nat) (p0 p1 : Int32) (o : Nat) (oo9 : Nat → Int64) (sz : Nat) (hrf : ∀ k, k < 8 → rf k = some (g k)) (hbadr : ¬ ∃ n : Nat, n < 8 ∧ p0 = nI n) : xc_Met l y_Lw_state ws_Lw_state ({ frames := 14, cells := 2, slots := 12, locals := 340 }) (xw_Pl dC dI [(cI, .int), (cB, .byte), (cL, .long), (cZ, .boolean), (cR, .object "PatchStore$Repository")] [.ref h, .int p0, .int p1, .ref o] [(h, .inr (0, [ps_tape, .ref rp, ps_sha, ps_stock, ps_intake, ps_view, ps_text, ps_maker, ps_recording, ps_tapeLength, ps_lastFault])), (rp, .inl (cR, 8, .inr (.inr (.inr (.inr rf))))), (o, .inl (cL, 1, .inr (.inl oo9)))] sz) (xc_Q (S := (Unit) × (Nat → Int64)) (fun v (w : (Unit) × (Nat → Int64)) => (∃ r : Int32, v = some (.int 0) ∧ w.2 0 = r.toInt64 ∧ (fun (_ : Option Value) (_ : Unit) => False) (some (.int r)) w.1) ∨ (∃ C : String, v = some (.int (cd_state C)) ∧ (fun (C : String) (_ : Unit) => C = "java/util/NoSuchElementException") C w.1)) (fun _ _ => False) (fun w t => xw_B dC dI [(cI, .int), (cB, .byte), (cL, .long), (cZ, .boolean), (cR, .object "PatchStore$Repository")] (va_A [(h, .inr (0, [ps_tape, .ref rp, ps_sha, ps_stock, ps_intake, ps_view, ps_text, ps_maker, ps_recording, ps_tapeLength, ps_lastFault])), (rp, .inl (cR, 8, .inr (.inr (.inr (.inr rf))))), (o, .inl (cL, 1, .inr (.inl oo9)))] sz) [(h, .inr (0, [ps_tape, .ref rp, ps_sha, ps_stock, ps_intake, ps_view, ps_text, ps_maker, ps_recording, ps_tapeLength, ps_lastFault])), (rp, .inl (cR, 8, .inr (.inr (.inr (.inr rf))))), (o, .inl (cL, 1, .inr (.inl w.2)))] t) (va_A [(h, .inr (0, [ps_tape, .ref rp, ps_sha, ps_stock, ps_intake, ps_view, ps_text, ps_maker, ps_recording, ps_tapeLength, ps_lastFault])), (rp, .inl (cR, 8, .inr (.inr (.inr (.inr rf))))), (o, .inl (cL, 1, .inr (.inl oo9)))] sz)) 2 12 (va_A [(h, .inr (0, [ps_tape, .ref rp, ps_sha, ps_stock, ps_intake, ps_view, ps_text, ps_maker, ps_recording, ps_tapeLength, ps_lastFault])), (rp, .inl (cR, 8, .inr (.inr (.inr (.inr rf))))), (o, .inl (cL, 1, .inr (.inl oo9)))] sz) := by
  refine xc_ofWH (cc := method_14_code) (maxL := 5) (ret := (Option.some Jvm.ClassFile.FieldType.int)) (hh := [((0 : Nat), (10 : Nat), (13 : Nat), (25 : Nat)), ((0 : Nat), (10 : Nat), (17 : Nat), (54 : Nat))]) (by decide) rfl ?_
  intro p e s m args below meth c s₁ B hml hrows hv
  obtain ⟨rfl, hsz, hP, hK, hD0, hN, hTh, hNc⟩ := hv
  have hx := B.exec
  have hb := B.bytes
  have hr := B.returns
  have hts0 := atoms_spec (ws := ws_Lw_state) B.pre
  have hts : ∀ w ∈ xg_1, w.before _ s = true := fun w h => hts0 w (List.mem_cons_of_mem _ h)
  have hown : s.vm.findClass "PatchStoreLaw" = some m.cls := findClass_of_methodNamed B.named
  have hlocks := B.notSynchronized
  subst hsz
  have hD := hD0.self (sz := s.heap.size)
  generalize hAe : va_A [(h, .inr (0, [ps_tape, .ref rp, ps_sha, ps_stock, ps_intake, ps_view, ps_text, ps_maker, ps_recording, ps_tapeLength, ps_lastFault])), (rp, .inl (cR, 8, .inr (.inr (.inr (.inr rf))))), (o, .inl (cL, 1, .inr (.inl oo9)))] s.heap.size = A at hD hTh ⊢
  have hA : ∀ q : Nat, s.heap.size ≤ q → A q := fun q h => by rw [← hAe]; exact Or.inr h
  have hS : va_S A s.heap s.heap [] := va_S.rf
  have hl := lv_entry ([.ref h, .int p0, .int p1, .ref o]) (n := 5) (Nat.le_of_ble_eq_true rfl)
  rw [lg_entry_eq]
  generalize (lg_sl ([.ref h, .int p0, .int p1, .ref o]) ++ List.replicate (5 - (lg_sl ([.ref h, .int p0, .int p1, .ref o])).length) Slot.unset).toArray = ls at hl ⊢
  have hl : lv_has ls 5 [(0, .ref h), (1, .int p0), (2, .int p1), (3, .ref o)] := hl
  refine lv_aload_n hx hb d_Lw_state_0 rfl (lv_at hl 3 rfl) ?_
  refine lv_iconst (v := 0) hx hb d_Lw_state_1 (by decide) ?_
  refine lv_aload_n hx hb d_Lw_state_2 rfl (lv_at hl 0 rfl) ?_
  refine lv_iload_n hx hb d_Lw_state_3 rfl (lv_at hl 1 rfl) ?_
  refine lv_iload_n hx hb d_Lw_state_4 rfl (lv_at hl 2 rfl) ?_
  have hPc := hP.sub (ws' := [(h, .inr (0, [ps_tape, .ref rp, ps_sha, ps_stock, ps_intake, ps_view, ps_text, ps_maker, ps_recording, ps_tapeLength, ps_lastFault])), (rp, .inl (cR, 8, .inr (.inr (.inr (.inr rf)))))]) [0, 1] rfl
  have hDc := hD.sub (ws' := [(h, .inr (0, [ps_tape, .ref rp, ps_sha, ps_stock, ps_intake, ps_view, ps_text, ps_maker, ps_recording, ps_tapeLength, ps_lastFault])), (rp, .inl (cR, 8, .inr (.inr (.inr (.inr rf)))))]) [0, 1] (by decide) rfl
  have hFc := va_free (wc := [(h, .inr (0, [ps_tape, .ref rp, ps_sha, ps_stock, ps_intake, ps_view, ps_text, ps_maker, ps_recording, ps_tapeLength, ps_lastFault])), (rp, .inl (cR, 8, .inr (.inr (.inr (.inr rf)))))]) hD hS hA [0, 1] rfl
  refine xc_call (xc_runV (As := [.int p0, .int p1]) (rest := [.int 0, .ref o]) (C := "PatchStore") ⟨hx, hb, hml, hown, hts⟩ (m_PS_stateX l dC dI cI cB cL cZ cR hlt h rp ps_tape ps_sha ps_stock ps_intake ps_view ps_text ps_maker ps_recording ps_tapeLength ps_lastFault g rf p0 p1 s.heap.size hrf hbadr) (xc_bOf 2 hts (xg_in gw_1301) (xc_Is.code (hts _ gw_1301)) rfl rfl (hts _ gw_1) (by decide +kernel) ⟨Nat.le_of_ble_eq_true rfl, Nat.le_of_ble_eq_true rfl⟩) (hts _ gw_1298) (hts _ gw_1299) (hts _ gw_1300) ⟨xw_blindx, va_recv hK hPc (ci := 0) (q0 := 0) rfl rfl, fun U hU hW => ⟨rfl, by rw [hU], by rw [hU]; exact hPc, va_K.moved hW.alike hK, hDc.weaken (fun _ _ _ _ => trivial), xg_N.warm hW hN, by rw [hU]; exact ((hTh.kept (fun a h1 h2 => hS.2.1 a h1 h2)).narrow hFc).moved hW.alike⟩⟩ rfl rfl hl.1 rfl (lv_room (Nat.le_of_ble_eq_true rfl)) d_Lw_state_5 ⟨Nat.le_of_ble_eq_true rfl, Nat.le_of_ble_eq_true rfl⟩) hS (fun q _ h => hFc q h) hFc (fun v9 u t H1 locs ht hvm hw hB hz1 hk1 hS => ?_) (fun x9 C9 u t H1 locs ht hvm hw hex hB hz1 hk1 hS => ?_)
  · skip
    exact False.elim hw
  · have hC9 : C9 = "java/util/NoSuchElementException" := by
      exact hw
    obtain ⟨hP1, hK1, hD1⟩ := hB
    rw [ht] at hP1
    obtain ⟨hP, hD⟩ := va_join (wr := [(o, .inl (cL, 1, .inr (.inl oo9)))]) (w1 := [(h, .inr (0, [ps_tape, .ref rp, ps_sha, ps_stock, ps_intake, ps_view, ps_text, ps_maker, ps_recording, ps_tapeLength, ps_lastFault])), (rp, .inl (cR, 8, .inr (.inr (.inr (.inr rf)))))]) hP hD [0, 1] [2] rfl rfl (by decide) (by decide) hk1 hFc hP1 hD1
    generalize H1 = H at hP hS ht ⊢
    have hP : va_P (dC, dI) classes [(o, .inl (cL, 1, .inr (.inl oo9))), (h, .inr (0, [ps_tape, .ref rp, ps_sha, ps_stock, ps_intake, ps_view, ps_text, ps_maker, ps_recording, ps_tapeLength, ps_lastFault])), (rp, .inl (cR, 8, .inr (.inr (.inr (.inr rf)))))] H := hP
    have hD : va_D A [(o, .inl (cL, 1, .inr (.inl oo9))), (h, .inr (0, [ps_tape, .ref rp, ps_sha, ps_stock, ps_intake, ps_view, ps_text, ps_maker, ps_recording, ps_tapeLength, ps_lastFault])), (rp, .inl (cR, 8, .inr (.inr (.inr (.inr rf)))))] := hD
    obtain rfl := hC9
    have hcd : cd_state "java/util/NoSuchElementException" = 1 := by first | decide | (simp [cd_state]; done)
    refine xc_catch (tgt := 13) hown hrows ht hvm hex ⟨⟨by decide, by decide⟩, by decide, "java/util/NoSuchElementException", hts _ gw_695, Or.inl ⟨va_Nw.use rfl (hN _ gn_706), rfl⟩⟩ ?_
    refine lv_astore (lv' := [(4, .ref x9), (0, .ref h), (1, .int p0), (2, .int p1), (3, .ref o)]) hx hb d_Lw_state_13 hl (by decide) rfl (fun ls hl => ?_)
    refine lv_iconst (v := 1) hx hb d_Lw_state_15 (by decide) ?_
    have hP := hP.sub (ws' := [(h, .inr (0, [ps_tape, .ref rp, ps_sha, ps_stock, ps_intake, ps_view, ps_text, ps_maker, ps_recording, ps_tapeLength, ps_lastFault])), (rp, .inl (cR, 8, .inr (.inr (.inr (.inr rf))))), (o, .inl (cL, 1, .inr (.inl oo9)))]) [1, 2, 0] rfl
    have hD := hD.sub (ws' := [(h, .inr (0, [ps_tape, .ref rp, ps_sha, ps_stock, ps_intake, ps_view, ps_text, ps_maker, ps_recording, ps_tapeLength, ps_lastFault])), (rp, .inl (cR, 8, .inr (.inr (.inr (.inr rf))))), (o, .inl (cL, 1, .inr (.inl oo9)))]) [1, 2, 0] (by decide) rfl
    refine W.widen (k := 2) (n := 12) (Nat.le_of_ble_eq_true rfl) (Nat.le_of_ble_eq_true rfl) ?_
    exact xc_ret (W.iret (v := 1) hx hb hr (fun t ht hW => ⟨Or.inl ⟨_, (u, oo9), rfl, Or.inr ⟨_, congrArg (fun z => some (Value.int z)) hcd.symm, hw⟩, (by rw [ht]; exact hP), va_K.moved hW.alike hK, hD⟩, hS.F ht⟩) hS.2.2 d_Lw_state_16)
set_option maxHeartbeats 4000000 in
set_option maxRecDepth 100000 in
/-- the law's about -/
theorem m_L_aboutX (l : Launch) (dC : Nat → ClassId) (dI : Nat → Nat → Nat) (cI cB cL cZ cR : ClassId) (hlt : xl_T l) (h rp : Nat) (ps_tape ps_sha ps_stock ps_intake ps_view ps_text ps_maker ps_recording ps_tapeLength ps_lastFault : Value) (g : Nat → Nat) (rf : Nat → Option Nat) (p0 p1 : Int32) (o : Nat) (oo9 : Nat → Int64) (sz : Nat) (hrf : ∀ k, k < 8 → rf k = some (g k)) (hbadr : ¬ ∃ n : Nat, n < 8 ∧ p0 = nI n) : xc_Met l y_Lw_about ws_Lw_about ({ frames := 14, cells := 2, slots := 12, locals := 340 }) (xw_Pl dC dI [(cI, .int), (cB, .byte), (cL, .long), (cZ, .boolean), (cR, .object "PatchStore$Repository")] [.ref h, .int p0, .int p1, .ref o] [(h, .inr (0, [ps_tape, .ref rp, ps_sha, ps_stock, ps_intake, ps_view, ps_text, ps_maker, ps_recording, ps_tapeLength, ps_lastFault])), (rp, .inl (cR, 8, .inr (.inr (.inr (.inr rf))))), (o, .inl (cL, 1, .inr (.inl oo9)))] sz) (xc_Q (S := (Unit) × (Nat → Int64)) (fun v (w : (Unit) × (Nat → Int64)) => (∃ r : Int32, v = some (.int 0) ∧ w.2 0 = r.toInt64 ∧ (fun (_ : Option Value) (_ : Unit) => False) (some (.int r)) w.1) ∨ (∃ C : String, v = some (.int (cd_about C)) ∧ (fun (C : String) (_ : Unit) => C = "java/util/NoSuchElementException") C w.1)) (fun _ _ => False) (fun w t => xw_B dC dI [(cI, .int), (cB, .byte), (cL, .long), (cZ, .boolean), (cR, .object "PatchStore$Repository")] (va_A [(h, .inr (0, [ps_tape, .ref rp, ps_sha, ps_stock, ps_intake, ps_view, ps_text, ps_maker, ps_recording, ps_tapeLength, ps_lastFault])), (rp, .inl (cR, 8, .inr (.inr (.inr (.inr rf))))), (o, .inl (cL, 1, .inr (.inl oo9)))] sz) [(h, .inr (0, [ps_tape, .ref rp, ps_sha, ps_stock, ps_intake, ps_view, ps_text, ps_maker, ps_recording, ps_tapeLength, ps_lastFault])), (rp, .inl (cR, 8, .inr (.inr (.inr (.inr rf))))), (o, .inl (cL, 1, .inr (.inl w.2)))] t) (va_A [(h, .inr (0, [ps_tape, .ref rp, ps_sha, ps_stock, ps_intake, ps_view, ps_text, ps_maker, ps_recording, ps_tapeLength, ps_lastFault])), (rp, .inl (cR, 8, .inr (.inr (.inr (.inr rf))))), (o, .inl (cL, 1, .inr (.inl oo9)))] sz)) 2 12 (va_A [(h, .inr (0, [ps_tape, .ref rp, ps_sha, ps_stock, ps_intake, ps_view, ps_text, ps_maker, ps_recording, ps_tapeLength, ps_lastFault])), (rp, .inl (cR, 8, .inr (.inr (.inr (.inr rf))))), (o, .inl (cL, 1, .inr (.inl oo9)))] sz) := by
  refine xc_ofWH (cc := method_15_code) (maxL := 5) (ret := (Option.some Jvm.ClassFile.FieldType.int)) (hh := [((0 : Nat), (10 : Nat), (13 : Nat), (25 : Nat)), ((0 : Nat), (10 : Nat), (17 : Nat), (19 : Nat))]) (by decide) rfl ?_
  intro p e s m args below meth c s₁ B hml hrows hv
  obtain ⟨rfl, hsz, hP, hK, hD0, hN, hTh, hNc⟩ := hv
  have hx := B.exec
  have hb := B.bytes
  have hr := B.returns
  have hts0 := atoms_spec (ws := ws_Lw_about) B.pre
  have hts : ∀ w ∈ xg_1, w.before _ s = true := fun w h => hts0 w (List.mem_cons_of_mem _ h)
  have hown : s.vm.findClass "PatchStoreLaw" = some m.cls := findClass_of_methodNamed B.named
  have hlocks := B.notSynchronized
  subst hsz
  have hD := hD0.self (sz := s.heap.size)
  generalize hAe : va_A [(h, .inr (0, [ps_tape, .ref rp, ps_sha, ps_stock, ps_intake, ps_view, ps_text, ps_maker, ps_recording, ps_tapeLength, ps_lastFault])), (rp, .inl (cR, 8, .inr (.inr (.inr (.inr rf))))), (o, .inl (cL, 1, .inr (.inl oo9)))] s.heap.size = A at hD hTh ⊢
  have hA : ∀ q : Nat, s.heap.size ≤ q → A q := fun q h => by rw [← hAe]; exact Or.inr h
  have hS : va_S A s.heap s.heap [] := va_S.rf
  have hl := lv_entry ([.ref h, .int p0, .int p1, .ref o]) (n := 5) (Nat.le_of_ble_eq_true rfl)
  rw [lg_entry_eq]
  generalize (lg_sl ([.ref h, .int p0, .int p1, .ref o]) ++ List.replicate (5 - (lg_sl ([.ref h, .int p0, .int p1, .ref o])).length) Slot.unset).toArray = ls at hl ⊢
  have hl : lv_has ls 5 [(0, .ref h), (1, .int p0), (2, .int p1), (3, .ref o)] := hl
  refine lv_aload_n hx hb d_Lw_about_0 rfl (lv_at hl 3 rfl) ?_
  refine lv_iconst (v := 0) hx hb d_Lw_about_1 (by decide) ?_
  refine lv_aload_n hx hb d_Lw_about_2 rfl (lv_at hl 0 rfl) ?_
  refine lv_iload_n hx hb d_Lw_about_3 rfl (lv_at hl 1 rfl) ?_
  refine lv_iload_n hx hb d_Lw_about_4 rfl (lv_at hl 2 rfl) ?_
  have hPc := hP.sub (ws' := [(h, .inr (0, [ps_tape, .ref rp, ps_sha, ps_stock, ps_intake, ps_view, ps_text, ps_maker, ps_recording, ps_tapeLength, ps_lastFault])), (rp, .inl (cR, 8, .inr (.inr (.inr (.inr rf)))))]) [0, 1] rfl
  have hDc := hD.sub (ws' := [(h, .inr (0, [ps_tape, .ref rp, ps_sha, ps_stock, ps_intake, ps_view, ps_text, ps_maker, ps_recording, ps_tapeLength, ps_lastFault])), (rp, .inl (cR, 8, .inr (.inr (.inr (.inr rf)))))]) [0, 1] (by decide) rfl
  have hFc := va_free (wc := [(h, .inr (0, [ps_tape, .ref rp, ps_sha, ps_stock, ps_intake, ps_view, ps_text, ps_maker, ps_recording, ps_tapeLength, ps_lastFault])), (rp, .inl (cR, 8, .inr (.inr (.inr (.inr rf)))))]) hD hS hA [0, 1] rfl
  refine xc_call (xc_runV (As := [.int p0, .int p1]) (rest := [.int 0, .ref o]) (C := "PatchStore") ⟨hx, hb, hml, hown, hts⟩ (m_PS_aboutX l dC dI cI cB cL cZ cR hlt h rp ps_tape ps_sha ps_stock ps_intake ps_view ps_text ps_maker ps_recording ps_tapeLength ps_lastFault g rf p0 p1 s.heap.size hrf hbadr) (xc_bOf 2 hts (xg_in gw_1315) (xc_Is.code (hts _ gw_1315)) rfl rfl (hts _ gw_1) (by decide +kernel) ⟨Nat.le_of_ble_eq_true rfl, Nat.le_of_ble_eq_true rfl⟩) (hts _ gw_1312) (hts _ gw_1313) (hts _ gw_1314) ⟨xw_blindx, va_recv hK hPc (ci := 0) (q0 := 0) rfl rfl, fun U hU hW => ⟨rfl, by rw [hU], by rw [hU]; exact hPc, va_K.moved hW.alike hK, hDc.weaken (fun _ _ _ _ => trivial), xg_N.warm hW hN, by rw [hU]; exact ((hTh.kept (fun a h1 h2 => hS.2.1 a h1 h2)).narrow hFc).moved hW.alike⟩⟩ rfl rfl hl.1 rfl (lv_room (Nat.le_of_ble_eq_true rfl)) d_Lw_about_5 ⟨Nat.le_of_ble_eq_true rfl, Nat.le_of_ble_eq_true rfl⟩) hS (fun q _ h => hFc q h) hFc (fun v9 u t H1 locs ht hvm hw hB hz1 hk1 hS => ?_) (fun x9 C9 u t H1 locs ht hvm hw hex hB hz1 hk1 hS => ?_)
  · skip
    exact False.elim hw
  · have hC9 : C9 = "java/util/NoSuchElementException" := by
      exact hw
    obtain ⟨hP1, hK1, hD1⟩ := hB
    rw [ht] at hP1
    obtain ⟨hP, hD⟩ := va_join (wr := [(o, .inl (cL, 1, .inr (.inl oo9)))]) (w1 := [(h, .inr (0, [ps_tape, .ref rp, ps_sha, ps_stock, ps_intake, ps_view, ps_text, ps_maker, ps_recording, ps_tapeLength, ps_lastFault])), (rp, .inl (cR, 8, .inr (.inr (.inr (.inr rf)))))]) hP hD [0, 1] [2] rfl rfl (by decide) (by decide) hk1 hFc hP1 hD1
    generalize H1 = H at hP hS ht ⊢
    have hP : va_P (dC, dI) classes [(o, .inl (cL, 1, .inr (.inl oo9))), (h, .inr (0, [ps_tape, .ref rp, ps_sha, ps_stock, ps_intake, ps_view, ps_text, ps_maker, ps_recording, ps_tapeLength, ps_lastFault])), (rp, .inl (cR, 8, .inr (.inr (.inr (.inr rf)))))] H := hP
    have hD : va_D A [(o, .inl (cL, 1, .inr (.inl oo9))), (h, .inr (0, [ps_tape, .ref rp, ps_sha, ps_stock, ps_intake, ps_view, ps_text, ps_maker, ps_recording, ps_tapeLength, ps_lastFault])), (rp, .inl (cR, 8, .inr (.inr (.inr (.inr rf)))))] := hD
    obtain rfl := hC9
    have hcd : cd_about "java/util/NoSuchElementException" = 1 := by first | decide | (simp [cd_about]; done)
    refine xc_catch (tgt := 13) hown hrows ht hvm hex ⟨⟨by decide, by decide⟩, by decide, "java/util/NoSuchElementException", hts _ gw_695, Or.inl ⟨va_Nw.use rfl (hN _ gn_706), rfl⟩⟩ ?_
    refine lv_astore (lv' := [(4, .ref x9), (0, .ref h), (1, .int p0), (2, .int p1), (3, .ref o)]) hx hb d_Lw_about_13 hl (by decide) rfl (fun ls hl => ?_)
    refine lv_iconst (v := 1) hx hb d_Lw_about_15 (by decide) ?_
    have hP := hP.sub (ws' := [(h, .inr (0, [ps_tape, .ref rp, ps_sha, ps_stock, ps_intake, ps_view, ps_text, ps_maker, ps_recording, ps_tapeLength, ps_lastFault])), (rp, .inl (cR, 8, .inr (.inr (.inr (.inr rf))))), (o, .inl (cL, 1, .inr (.inl oo9)))]) [1, 2, 0] rfl
    have hD := hD.sub (ws' := [(h, .inr (0, [ps_tape, .ref rp, ps_sha, ps_stock, ps_intake, ps_view, ps_text, ps_maker, ps_recording, ps_tapeLength, ps_lastFault])), (rp, .inl (cR, 8, .inr (.inr (.inr (.inr rf))))), (o, .inl (cL, 1, .inr (.inl oo9)))]) [1, 2, 0] (by decide) rfl
    refine W.widen (k := 2) (n := 12) (Nat.le_of_ble_eq_true rfl) (Nat.le_of_ble_eq_true rfl) ?_
    exact xc_ret (W.iret (v := 1) hx hb hr (fun t ht hW => ⟨Or.inl ⟨_, (u, oo9), rfl, Or.inr ⟨_, congrArg (fun z => some (Value.int z)) hcd.symm, hw⟩, (by rw [ht]; exact hP), va_K.moved hW.alike hK, hD⟩, hS.F ht⟩) hS.2.2 d_Lw_about_16)
set_option maxHeartbeats 4000000 in
set_option maxRecDepth 100000 in
/-- the law's file -/
theorem m_L_fileX (l : Launch) (dC : Nat → ClassId) (dI : Nat → Nat → Nat) (cI cB cL cZ cR : ClassId) (hlt : xl_T l) (h rp : Nat) (ps_tape ps_sha ps_stock ps_intake ps_view ps_text ps_maker ps_recording ps_tapeLength ps_lastFault : Value) (g : Nat → Nat) (rf : Nat → Option Nat) (p0 p1 p2 : Int32) (o : Nat) (oo9 : Nat → Int64) (sz : Nat) (hrf : ∀ k, k < 8 → rf k = some (g k)) (hbadr : ¬ ∃ n : Nat, n < 8 ∧ p0 = nI n) : xc_Met l y_Lw_file ws_Lw_file ({ frames := 14, cells := 2, slots := 12, locals := 340 }) (xw_Pl dC dI [(cI, .int), (cB, .byte), (cL, .long), (cZ, .boolean), (cR, .object "PatchStore$Repository")] [.ref h, .int p0, .int p1, .int p2, .ref o] [(h, .inr (0, [ps_tape, .ref rp, ps_sha, ps_stock, ps_intake, ps_view, ps_text, ps_maker, ps_recording, ps_tapeLength, ps_lastFault])), (rp, .inl (cR, 8, .inr (.inr (.inr (.inr rf))))), (o, .inl (cL, 1, .inr (.inl oo9)))] sz) (xc_Q (S := (Unit) × (Nat → Int64)) (fun v (w : (Unit) × (Nat → Int64)) => (∃ r : Int32, v = some (.int 0) ∧ w.2 0 = r.toInt64 ∧ (fun (_ : Option Value) (_ : Unit) => False) (some (.int r)) w.1) ∨ (∃ C : String, v = some (.int (cd_file C)) ∧ (fun (C : String) (_ : Unit) => C = "java/util/NoSuchElementException") C w.1)) (fun _ _ => False) (fun w t => xw_B dC dI [(cI, .int), (cB, .byte), (cL, .long), (cZ, .boolean), (cR, .object "PatchStore$Repository")] (va_A [(h, .inr (0, [ps_tape, .ref rp, ps_sha, ps_stock, ps_intake, ps_view, ps_text, ps_maker, ps_recording, ps_tapeLength, ps_lastFault])), (rp, .inl (cR, 8, .inr (.inr (.inr (.inr rf))))), (o, .inl (cL, 1, .inr (.inl oo9)))] sz) [(h, .inr (0, [ps_tape, .ref rp, ps_sha, ps_stock, ps_intake, ps_view, ps_text, ps_maker, ps_recording, ps_tapeLength, ps_lastFault])), (rp, .inl (cR, 8, .inr (.inr (.inr (.inr rf))))), (o, .inl (cL, 1, .inr (.inl w.2)))] t) (va_A [(h, .inr (0, [ps_tape, .ref rp, ps_sha, ps_stock, ps_intake, ps_view, ps_text, ps_maker, ps_recording, ps_tapeLength, ps_lastFault])), (rp, .inl (cR, 8, .inr (.inr (.inr (.inr rf))))), (o, .inl (cL, 1, .inr (.inl oo9)))] sz)) 2 12 (va_A [(h, .inr (0, [ps_tape, .ref rp, ps_sha, ps_stock, ps_intake, ps_view, ps_text, ps_maker, ps_recording, ps_tapeLength, ps_lastFault])), (rp, .inl (cR, 8, .inr (.inr (.inr (.inr rf))))), (o, .inl (cL, 1, .inr (.inl oo9)))] sz) := by
  refine xc_ofWH (cc := method_16_code) (maxL := 6) (ret := (Option.some Jvm.ClassFile.FieldType.int)) (hh := [((0 : Nat), (12 : Nat), (15 : Nat), (25 : Nat)), ((0 : Nat), (12 : Nat), (19 : Nat), (19 : Nat))]) (by decide) rfl ?_
  intro p e s m args below meth c s₁ B hml hrows hv
  obtain ⟨rfl, hsz, hP, hK, hD0, hN, hTh, hNc⟩ := hv
  have hx := B.exec
  have hb := B.bytes
  have hr := B.returns
  have hts0 := atoms_spec (ws := ws_Lw_file) B.pre
  have hts : ∀ w ∈ xg_1, w.before _ s = true := fun w h => hts0 w (List.mem_cons_of_mem _ h)
  have hown : s.vm.findClass "PatchStoreLaw" = some m.cls := findClass_of_methodNamed B.named
  have hlocks := B.notSynchronized
  subst hsz
  have hD := hD0.self (sz := s.heap.size)
  generalize hAe : va_A [(h, .inr (0, [ps_tape, .ref rp, ps_sha, ps_stock, ps_intake, ps_view, ps_text, ps_maker, ps_recording, ps_tapeLength, ps_lastFault])), (rp, .inl (cR, 8, .inr (.inr (.inr (.inr rf))))), (o, .inl (cL, 1, .inr (.inl oo9)))] s.heap.size = A at hD hTh ⊢
  have hA : ∀ q : Nat, s.heap.size ≤ q → A q := fun q h => by rw [← hAe]; exact Or.inr h
  have hS : va_S A s.heap s.heap [] := va_S.rf
  have hl := lv_entry ([.ref h, .int p0, .int p1, .int p2, .ref o]) (n := 6) (Nat.le_of_ble_eq_true rfl)
  rw [lg_entry_eq]
  generalize (lg_sl ([.ref h, .int p0, .int p1, .int p2, .ref o]) ++ List.replicate (6 - (lg_sl ([.ref h, .int p0, .int p1, .int p2, .ref o])).length) Slot.unset).toArray = ls at hl ⊢
  have hl : lv_has ls 6 [(0, .ref h), (1, .int p0), (2, .int p1), (3, .int p2), (4, .ref o)] := hl
  refine lv_aload hx hb d_Lw_file_0 (lv_at hl 4 rfl) ?_
  refine lv_iconst (v := 0) hx hb d_Lw_file_2 (by decide) ?_
  refine lv_aload_n hx hb d_Lw_file_3 rfl (lv_at hl 0 rfl) ?_
  refine lv_iload_n hx hb d_Lw_file_4 rfl (lv_at hl 1 rfl) ?_
  refine lv_iload_n hx hb d_Lw_file_5 rfl (lv_at hl 2 rfl) ?_
  refine lv_iload_n hx hb d_Lw_file_6 rfl (lv_at hl 3 rfl) ?_
  have hPc := hP.sub (ws' := [(h, .inr (0, [ps_tape, .ref rp, ps_sha, ps_stock, ps_intake, ps_view, ps_text, ps_maker, ps_recording, ps_tapeLength, ps_lastFault])), (rp, .inl (cR, 8, .inr (.inr (.inr (.inr rf)))))]) [0, 1] rfl
  have hDc := hD.sub (ws' := [(h, .inr (0, [ps_tape, .ref rp, ps_sha, ps_stock, ps_intake, ps_view, ps_text, ps_maker, ps_recording, ps_tapeLength, ps_lastFault])), (rp, .inl (cR, 8, .inr (.inr (.inr (.inr rf)))))]) [0, 1] (by decide) rfl
  have hFc := va_free (wc := [(h, .inr (0, [ps_tape, .ref rp, ps_sha, ps_stock, ps_intake, ps_view, ps_text, ps_maker, ps_recording, ps_tapeLength, ps_lastFault])), (rp, .inl (cR, 8, .inr (.inr (.inr (.inr rf)))))]) hD hS hA [0, 1] rfl
  refine xc_call (xc_runV (As := [.int p0, .int p1, .int p2]) (rest := [.int 0, .ref o]) (C := "PatchStore") ⟨hx, hb, hml, hown, hts⟩ (m_PS_fileX l dC dI cI cB cL cZ cR hlt h rp ps_tape ps_sha ps_stock ps_intake ps_view ps_text ps_maker ps_recording ps_tapeLength ps_lastFault g rf p0 p1 p2 s.heap.size hrf hbadr) (xc_bOf 3 hts (xg_in gw_1343) (xc_Is.code (hts _ gw_1343)) rfl rfl (hts _ gw_1) (by decide +kernel) ⟨Nat.le_of_ble_eq_true rfl, Nat.le_of_ble_eq_true rfl⟩) (hts _ gw_1340) (hts _ gw_1341) (hts _ gw_1342) ⟨xw_blindx, va_recv hK hPc (ci := 0) (q0 := 0) rfl rfl, fun U hU hW => ⟨rfl, by rw [hU], by rw [hU]; exact hPc, va_K.moved hW.alike hK, hDc.weaken (fun _ _ _ _ => trivial), xg_N.warm hW hN, by rw [hU]; exact ((hTh.kept (fun a h1 h2 => hS.2.1 a h1 h2)).narrow hFc).moved hW.alike⟩⟩ rfl rfl hl.1 rfl (lv_room (Nat.le_of_ble_eq_true rfl)) d_Lw_file_7 ⟨Nat.le_of_ble_eq_true rfl, Nat.le_of_ble_eq_true rfl⟩) hS (fun q _ h => hFc q h) hFc (fun v9 u t H1 locs ht hvm hw hB hz1 hk1 hS => ?_) (fun x9 C9 u t H1 locs ht hvm hw hex hB hz1 hk1 hS => ?_)
  · skip
    exact False.elim hw
  · have hC9 : C9 = "java/util/NoSuchElementException" := by
      exact hw
    obtain ⟨hP1, hK1, hD1⟩ := hB
    rw [ht] at hP1
    obtain ⟨hP, hD⟩ := va_join (wr := [(o, .inl (cL, 1, .inr (.inl oo9)))]) (w1 := [(h, .inr (0, [ps_tape, .ref rp, ps_sha, ps_stock, ps_intake, ps_view, ps_text, ps_maker, ps_recording, ps_tapeLength, ps_lastFault])), (rp, .inl (cR, 8, .inr (.inr (.inr (.inr rf)))))]) hP hD [0, 1] [2] rfl rfl (by decide) (by decide) hk1 hFc hP1 hD1
    generalize H1 = H at hP hS ht ⊢
    have hP : va_P (dC, dI) classes [(o, .inl (cL, 1, .inr (.inl oo9))), (h, .inr (0, [ps_tape, .ref rp, ps_sha, ps_stock, ps_intake, ps_view, ps_text, ps_maker, ps_recording, ps_tapeLength, ps_lastFault])), (rp, .inl (cR, 8, .inr (.inr (.inr (.inr rf)))))] H := hP
    have hD : va_D A [(o, .inl (cL, 1, .inr (.inl oo9))), (h, .inr (0, [ps_tape, .ref rp, ps_sha, ps_stock, ps_intake, ps_view, ps_text, ps_maker, ps_recording, ps_tapeLength, ps_lastFault])), (rp, .inl (cR, 8, .inr (.inr (.inr (.inr rf)))))] := hD
    obtain rfl := hC9
    have hcd : cd_file "java/util/NoSuchElementException" = 1 := by first | decide | (simp [cd_file]; done)
    refine xc_catch (tgt := 15) hown hrows ht hvm hex ⟨⟨by decide, by decide⟩, by decide, "java/util/NoSuchElementException", hts _ gw_695, Or.inl ⟨va_Nw.use rfl (hN _ gn_706), rfl⟩⟩ ?_
    refine lv_astore (lv' := [(5, .ref x9), (0, .ref h), (1, .int p0), (2, .int p1), (3, .int p2), (4, .ref o)]) hx hb d_Lw_file_15 hl (by decide) rfl (fun ls hl => ?_)
    refine lv_iconst (v := 1) hx hb d_Lw_file_17 (by decide) ?_
    have hP := hP.sub (ws' := [(h, .inr (0, [ps_tape, .ref rp, ps_sha, ps_stock, ps_intake, ps_view, ps_text, ps_maker, ps_recording, ps_tapeLength, ps_lastFault])), (rp, .inl (cR, 8, .inr (.inr (.inr (.inr rf))))), (o, .inl (cL, 1, .inr (.inl oo9)))]) [1, 2, 0] rfl
    have hD := hD.sub (ws' := [(h, .inr (0, [ps_tape, .ref rp, ps_sha, ps_stock, ps_intake, ps_view, ps_text, ps_maker, ps_recording, ps_tapeLength, ps_lastFault])), (rp, .inl (cR, 8, .inr (.inr (.inr (.inr rf))))), (o, .inl (cL, 1, .inr (.inl oo9)))]) [1, 2, 0] (by decide) rfl
    refine W.widen (k := 2) (n := 12) (Nat.le_of_ble_eq_true rfl) (Nat.le_of_ble_eq_true rfl) ?_
    exact xc_ret (W.iret (v := 1) hx hb hr (fun t ht hW => ⟨Or.inl ⟨_, (u, oo9), rfl, Or.inr ⟨_, congrArg (fun z => some (Value.int z)) hcd.symm, hw⟩, (by rw [ht]; exact hP), va_K.moved hW.alike hK, hD⟩, hS.F ht⟩) hS.2.2 d_Lw_file_18)
set_option maxHeartbeats 4000000 in
set_option maxRecDepth 100000 in
/-- the law's name -/
theorem m_L_nameX (l : Launch) (dC : Nat → ClassId) (dI : Nat → Nat → Nat) (cI cB cL cZ cR : ClassId) (hlt : xl_T l) (h rp vw : Nat) (ps_tape ps_sha ps_stock ps_intake ps_text ps_maker ps_recording ps_tapeLength ps_lastFault : Value) (g : Nat → Nat) (rf : Nat → Option Nat) (p0 p1 p2 p3 : Int32) (o : Nat) (oo9 : Nat → Int64) (sz : Nat) (hrf : ∀ k, k < 8 → rf k = some (g k)) (hbadr : ¬ ∃ n : Nat, n < 8 ∧ p0 = nI n) : xc_Met l y_Lw_name ws_Lw_name ({ frames := 14, cells := 2, slots := 12, locals := 340 }) (xw_Pl dC dI [(cI, .int), (cB, .byte), (cL, .long), (cZ, .boolean), (cR, .object "PatchStore$Repository")] [.ref h, .int p0, .int p1, .int p2, .int p3, .ref o] [(h, .inr (0, [ps_tape, .ref rp, ps_sha, ps_stock, ps_intake, .ref vw, ps_text, ps_maker, ps_recording, ps_tapeLength, ps_lastFault])), (rp, .inl (cR, 8, .inr (.inr (.inr (.inr rf))))), (o, .inl (cL, 1, .inr (.inl oo9)))] sz) (xc_Q (S := (Unit) × (Nat → Int64)) (fun v (w : (Unit) × (Nat → Int64)) => (∃ r : Int32, v = some (.int 0) ∧ w.2 0 = r.toInt64 ∧ (fun (_ : Option Value) (_ : Unit) => False) (some (.int r)) w.1) ∨ (∃ C : String, v = some (.int (cd_name C)) ∧ (fun (C : String) (_ : Unit) => C = "java/util/NoSuchElementException") C w.1)) (fun _ _ => False) (fun w t => xw_B dC dI [(cI, .int), (cB, .byte), (cL, .long), (cZ, .boolean), (cR, .object "PatchStore$Repository")] (va_A [(h, .inr (0, [ps_tape, .ref rp, ps_sha, ps_stock, ps_intake, .ref vw, ps_text, ps_maker, ps_recording, ps_tapeLength, ps_lastFault])), (rp, .inl (cR, 8, .inr (.inr (.inr (.inr rf))))), (o, .inl (cL, 1, .inr (.inl oo9)))] sz) [(h, .inr (0, [ps_tape, .ref rp, ps_sha, ps_stock, ps_intake, .ref vw, ps_text, ps_maker, ps_recording, ps_tapeLength, ps_lastFault])), (rp, .inl (cR, 8, .inr (.inr (.inr (.inr rf))))), (o, .inl (cL, 1, .inr (.inl w.2)))] t) (va_A [(h, .inr (0, [ps_tape, .ref rp, ps_sha, ps_stock, ps_intake, .ref vw, ps_text, ps_maker, ps_recording, ps_tapeLength, ps_lastFault])), (rp, .inl (cR, 8, .inr (.inr (.inr (.inr rf))))), (o, .inl (cL, 1, .inr (.inl oo9)))] sz)) 2 12 (va_A [(h, .inr (0, [ps_tape, .ref rp, ps_sha, ps_stock, ps_intake, .ref vw, ps_text, ps_maker, ps_recording, ps_tapeLength, ps_lastFault])), (rp, .inl (cR, 8, .inr (.inr (.inr (.inr rf))))), (o, .inl (cL, 1, .inr (.inl oo9)))] sz) := by
  refine xc_ofWH (cc := method_17_code) (maxL := 7) (ret := (Option.some Jvm.ClassFile.FieldType.int)) (hh := [((0 : Nat), (14 : Nat), (17 : Nat), (25 : Nat)), ((0 : Nat), (14 : Nat), (21 : Nat), (54 : Nat))]) (by decide) rfl ?_
  intro p e s m args below meth c s₁ B hml hrows hv
  obtain ⟨rfl, hsz, hP, hK, hD0, hN, hTh, hNc⟩ := hv
  have hx := B.exec
  have hb := B.bytes
  have hr := B.returns
  have hts0 := atoms_spec (ws := ws_Lw_name) B.pre
  have hts : ∀ w ∈ xg_1, w.before _ s = true := fun w h => hts0 w (List.mem_cons_of_mem _ h)
  have hown : s.vm.findClass "PatchStoreLaw" = some m.cls := findClass_of_methodNamed B.named
  have hlocks := B.notSynchronized
  subst hsz
  have hD := hD0.self (sz := s.heap.size)
  generalize hAe : va_A [(h, .inr (0, [ps_tape, .ref rp, ps_sha, ps_stock, ps_intake, .ref vw, ps_text, ps_maker, ps_recording, ps_tapeLength, ps_lastFault])), (rp, .inl (cR, 8, .inr (.inr (.inr (.inr rf))))), (o, .inl (cL, 1, .inr (.inl oo9)))] s.heap.size = A at hD hTh ⊢
  have hA : ∀ q : Nat, s.heap.size ≤ q → A q := fun q h => by rw [← hAe]; exact Or.inr h
  have hS : va_S A s.heap s.heap [] := va_S.rf
  have hl := lv_entry ([.ref h, .int p0, .int p1, .int p2, .int p3, .ref o]) (n := 7) (Nat.le_of_ble_eq_true rfl)
  rw [lg_entry_eq]
  generalize (lg_sl ([.ref h, .int p0, .int p1, .int p2, .int p3, .ref o]) ++ List.replicate (7 - (lg_sl ([.ref h, .int p0, .int p1, .int p2, .int p3, .ref o])).length) Slot.unset).toArray = ls at hl ⊢
  have hl : lv_has ls 7 [(0, .ref h), (1, .int p0), (2, .int p1), (3, .int p2), (4, .int p3), (5, .ref o)] := hl
  refine lv_aload hx hb d_Lw_name_0 (lv_at hl 5 rfl) ?_
  refine lv_iconst (v := 0) hx hb d_Lw_name_2 (by decide) ?_
  refine lv_aload_n hx hb d_Lw_name_3 rfl (lv_at hl 0 rfl) ?_
  refine lv_iload_n hx hb d_Lw_name_4 rfl (lv_at hl 1 rfl) ?_
  refine lv_iload_n hx hb d_Lw_name_5 rfl (lv_at hl 2 rfl) ?_
  refine lv_iload_n hx hb d_Lw_name_6 rfl (lv_at hl 3 rfl) ?_
  refine lv_iload hx hb d_Lw_name_7 (lv_at hl 4 rfl) ?_
  have hPc := hP.sub (ws' := [(h, .inr (0, [ps_tape, .ref rp, ps_sha, ps_stock, ps_intake, .ref vw, ps_text, ps_maker, ps_recording, ps_tapeLength, ps_lastFault])), (rp, .inl (cR, 8, .inr (.inr (.inr (.inr rf)))))]) [0, 1] rfl
  have hDc := hD.sub (ws' := [(h, .inr (0, [ps_tape, .ref rp, ps_sha, ps_stock, ps_intake, .ref vw, ps_text, ps_maker, ps_recording, ps_tapeLength, ps_lastFault])), (rp, .inl (cR, 8, .inr (.inr (.inr (.inr rf)))))]) [0, 1] (by decide) rfl
  have hFc := va_free (wc := [(h, .inr (0, [ps_tape, .ref rp, ps_sha, ps_stock, ps_intake, .ref vw, ps_text, ps_maker, ps_recording, ps_tapeLength, ps_lastFault])), (rp, .inl (cR, 8, .inr (.inr (.inr (.inr rf)))))]) hD hS hA [0, 1] rfl
  refine xc_call (xc_runV (As := [.int p0, .int p1, .int p2, .int p3]) (rest := [.int 0, .ref o]) (C := "PatchStore") ⟨hx, hb, hml, hown, hts⟩ (m_PS_nameX l dC dI cI cB cL cZ cR hlt h rp vw ps_tape ps_sha ps_stock ps_intake ps_text ps_maker ps_recording ps_tapeLength ps_lastFault g rf p0 p1 p2 p3 s.heap.size hrf hbadr) (xc_bOf 4 hts (xg_in gw_1350) (xc_Is.code (hts _ gw_1350)) rfl rfl (hts _ gw_1) (by decide +kernel) ⟨Nat.le_of_ble_eq_true rfl, Nat.le_of_ble_eq_true rfl⟩) (hts _ gw_1347) (hts _ gw_1348) (hts _ gw_1349) ⟨xw_blindx, va_recv hK hPc (ci := 0) (q0 := 0) rfl rfl, fun U hU hW => ⟨rfl, by rw [hU], by rw [hU]; exact hPc, va_K.moved hW.alike hK, hDc.weaken (fun _ _ _ _ => trivial), xg_N.warm hW hN, by rw [hU]; exact ((hTh.kept (fun a h1 h2 => hS.2.1 a h1 h2)).narrow hFc).moved hW.alike⟩⟩ rfl rfl hl.1 rfl (lv_room (Nat.le_of_ble_eq_true rfl)) d_Lw_name_9 ⟨Nat.le_of_ble_eq_true rfl, Nat.le_of_ble_eq_true rfl⟩) hS (fun q _ h => hFc q h) hFc (fun v9 u t H1 locs ht hvm hw hB hz1 hk1 hS => ?_) (fun x9 C9 u t H1 locs ht hvm hw hex hB hz1 hk1 hS => ?_)
  · skip
    exact False.elim hw
  · have hC9 : C9 = "java/util/NoSuchElementException" := by
      exact hw
    obtain ⟨hP1, hK1, hD1⟩ := hB
    rw [ht] at hP1
    obtain ⟨hP, hD⟩ := va_join (wr := [(o, .inl (cL, 1, .inr (.inl oo9)))]) (w1 := [(h, .inr (0, [ps_tape, .ref rp, ps_sha, ps_stock, ps_intake, .ref vw, ps_text, ps_maker, ps_recording, ps_tapeLength, ps_lastFault])), (rp, .inl (cR, 8, .inr (.inr (.inr (.inr rf)))))]) hP hD [0, 1] [2] rfl rfl (by decide) (by decide) hk1 hFc hP1 hD1
    generalize H1 = H at hP hS ht ⊢
    have hP : va_P (dC, dI) classes [(o, .inl (cL, 1, .inr (.inl oo9))), (h, .inr (0, [ps_tape, .ref rp, ps_sha, ps_stock, ps_intake, .ref vw, ps_text, ps_maker, ps_recording, ps_tapeLength, ps_lastFault])), (rp, .inl (cR, 8, .inr (.inr (.inr (.inr rf)))))] H := hP
    have hD : va_D A [(o, .inl (cL, 1, .inr (.inl oo9))), (h, .inr (0, [ps_tape, .ref rp, ps_sha, ps_stock, ps_intake, .ref vw, ps_text, ps_maker, ps_recording, ps_tapeLength, ps_lastFault])), (rp, .inl (cR, 8, .inr (.inr (.inr (.inr rf)))))] := hD
    obtain rfl := hC9
    have hcd : cd_name "java/util/NoSuchElementException" = 1 := by first | decide | (simp [cd_name]; done)
    refine xc_catch (tgt := 17) hown hrows ht hvm hex ⟨⟨by decide, by decide⟩, by decide, "java/util/NoSuchElementException", hts _ gw_695, Or.inl ⟨va_Nw.use rfl (hN _ gn_706), rfl⟩⟩ ?_
    refine lv_astore (lv' := [(6, .ref x9), (0, .ref h), (1, .int p0), (2, .int p1), (3, .int p2), (4, .int p3), (5, .ref o)]) hx hb d_Lw_name_17 hl (by decide) rfl (fun ls hl => ?_)
    refine lv_iconst (v := 1) hx hb d_Lw_name_19 (by decide) ?_
    have hP := hP.sub (ws' := [(h, .inr (0, [ps_tape, .ref rp, ps_sha, ps_stock, ps_intake, .ref vw, ps_text, ps_maker, ps_recording, ps_tapeLength, ps_lastFault])), (rp, .inl (cR, 8, .inr (.inr (.inr (.inr rf))))), (o, .inl (cL, 1, .inr (.inl oo9)))]) [1, 2, 0] rfl
    have hD := hD.sub (ws' := [(h, .inr (0, [ps_tape, .ref rp, ps_sha, ps_stock, ps_intake, .ref vw, ps_text, ps_maker, ps_recording, ps_tapeLength, ps_lastFault])), (rp, .inl (cR, 8, .inr (.inr (.inr (.inr rf))))), (o, .inl (cL, 1, .inr (.inl oo9)))]) [1, 2, 0] (by decide) rfl
    refine W.widen (k := 2) (n := 12) (Nat.le_of_ble_eq_true rfl) (Nat.le_of_ble_eq_true rfl) ?_
    exact xc_ret (W.iret (v := 1) hx hb hr (fun t ht hW => ⟨Or.inl ⟨_, (u, oo9), rfl, Or.inr ⟨_, congrArg (fun z => some (Value.int z)) hcd.symm, hw⟩, (by rw [ht]; exact hP), va_K.moved hW.alike hK, hD⟩, hS.F ht⟩) hS.2.2 d_Lw_name_20)
set_option maxHeartbeats 4000000 in
set_option maxRecDepth 100000 in
/-- the law's line -/
theorem m_L_lineX (l : Launch) (dC : Nat → ClassId) (dI : Nat → Nat → Nat) (cI cB cL cZ cR : ClassId) (hlt : xl_T l) (h rp : Nat) (ps_tape ps_sha ps_stock ps_intake ps_view ps_text ps_maker ps_recording ps_tapeLength ps_lastFault : Value) (g : Nat → Nat) (rf : Nat → Option Nat) (p0 p1 p2 p3 : Int32) (o : Nat) (oo9 : Nat → Int64) (sz : Nat) (hrf : ∀ k, k < 8 → rf k = some (g k)) (hbadr : ¬ ∃ n : Nat, n < 8 ∧ p0 = nI n) : xc_Met l y_Lw_line ws_Lw_line ({ frames := 14, cells := 2, slots := 12, locals := 340 }) (xw_Pl dC dI [(cI, .int), (cB, .byte), (cL, .long), (cZ, .boolean), (cR, .object "PatchStore$Repository")] [.ref h, .int p0, .int p1, .int p2, .int p3, .ref o] [(h, .inr (0, [ps_tape, .ref rp, ps_sha, ps_stock, ps_intake, ps_view, ps_text, ps_maker, ps_recording, ps_tapeLength, ps_lastFault])), (rp, .inl (cR, 8, .inr (.inr (.inr (.inr rf))))), (o, .inl (cL, 1, .inr (.inl oo9)))] sz) (xc_Q (S := (Unit) × (Nat → Int64)) (fun v (w : (Unit) × (Nat → Int64)) => (∃ r : Int32, v = some (.int 0) ∧ w.2 0 = r.toInt64 ∧ (fun (_ : Option Value) (_ : Unit) => False) (some (.int r)) w.1) ∨ (∃ C : String, v = some (.int (cd_line C)) ∧ (fun (C : String) (_ : Unit) => C = "java/util/NoSuchElementException") C w.1)) (fun _ _ => False) (fun w t => xw_B dC dI [(cI, .int), (cB, .byte), (cL, .long), (cZ, .boolean), (cR, .object "PatchStore$Repository")] (va_A [(h, .inr (0, [ps_tape, .ref rp, ps_sha, ps_stock, ps_intake, ps_view, ps_text, ps_maker, ps_recording, ps_tapeLength, ps_lastFault])), (rp, .inl (cR, 8, .inr (.inr (.inr (.inr rf))))), (o, .inl (cL, 1, .inr (.inl oo9)))] sz) [(h, .inr (0, [ps_tape, .ref rp, ps_sha, ps_stock, ps_intake, ps_view, ps_text, ps_maker, ps_recording, ps_tapeLength, ps_lastFault])), (rp, .inl (cR, 8, .inr (.inr (.inr (.inr rf))))), (o, .inl (cL, 1, .inr (.inl w.2)))] t) (va_A [(h, .inr (0, [ps_tape, .ref rp, ps_sha, ps_stock, ps_intake, ps_view, ps_text, ps_maker, ps_recording, ps_tapeLength, ps_lastFault])), (rp, .inl (cR, 8, .inr (.inr (.inr (.inr rf))))), (o, .inl (cL, 1, .inr (.inl oo9)))] sz)) 2 12 (va_A [(h, .inr (0, [ps_tape, .ref rp, ps_sha, ps_stock, ps_intake, ps_view, ps_text, ps_maker, ps_recording, ps_tapeLength, ps_lastFault])), (rp, .inl (cR, 8, .inr (.inr (.inr (.inr rf))))), (o, .inl (cL, 1, .inr (.inl oo9)))] sz) := by
  refine xc_ofWH (cc := method_18_code) (maxL := 7) (ret := (Option.some Jvm.ClassFile.FieldType.int)) (hh := [((0 : Nat), (14 : Nat), (17 : Nat), (25 : Nat)), ((0 : Nat), (14 : Nat), (21 : Nat), (54 : Nat))]) (by decide) rfl ?_
  intro p e s m args below meth c s₁ B hml hrows hv
  obtain ⟨rfl, hsz, hP, hK, hD0, hN, hTh, hNc⟩ := hv
  have hx := B.exec
  have hb := B.bytes
  have hr := B.returns
  have hts0 := atoms_spec (ws := ws_Lw_line) B.pre
  have hts : ∀ w ∈ xg_1, w.before _ s = true := fun w h => hts0 w (List.mem_cons_of_mem _ h)
  have hown : s.vm.findClass "PatchStoreLaw" = some m.cls := findClass_of_methodNamed B.named
  have hlocks := B.notSynchronized
  subst hsz
  have hD := hD0.self (sz := s.heap.size)
  generalize hAe : va_A [(h, .inr (0, [ps_tape, .ref rp, ps_sha, ps_stock, ps_intake, ps_view, ps_text, ps_maker, ps_recording, ps_tapeLength, ps_lastFault])), (rp, .inl (cR, 8, .inr (.inr (.inr (.inr rf))))), (o, .inl (cL, 1, .inr (.inl oo9)))] s.heap.size = A at hD hTh ⊢
  have hA : ∀ q : Nat, s.heap.size ≤ q → A q := fun q h => by rw [← hAe]; exact Or.inr h
  have hS : va_S A s.heap s.heap [] := va_S.rf
  have hl := lv_entry ([.ref h, .int p0, .int p1, .int p2, .int p3, .ref o]) (n := 7) (Nat.le_of_ble_eq_true rfl)
  rw [lg_entry_eq]
  generalize (lg_sl ([.ref h, .int p0, .int p1, .int p2, .int p3, .ref o]) ++ List.replicate (7 - (lg_sl ([.ref h, .int p0, .int p1, .int p2, .int p3, .ref o])).length) Slot.unset).toArray = ls at hl ⊢
  have hl : lv_has ls 7 [(0, .ref h), (1, .int p0), (2, .int p1), (3, .int p2), (4, .int p3), (5, .ref o)] := hl
  refine lv_aload hx hb d_Lw_line_0 (lv_at hl 5 rfl) ?_
  refine lv_iconst (v := 0) hx hb d_Lw_line_2 (by decide) ?_
  refine lv_aload_n hx hb d_Lw_line_3 rfl (lv_at hl 0 rfl) ?_
  refine lv_iload_n hx hb d_Lw_line_4 rfl (lv_at hl 1 rfl) ?_
  refine lv_iload_n hx hb d_Lw_line_5 rfl (lv_at hl 2 rfl) ?_
  refine lv_iload_n hx hb d_Lw_line_6 rfl (lv_at hl 3 rfl) ?_
  refine lv_iload hx hb d_Lw_line_7 (lv_at hl 4 rfl) ?_
  have hPc := hP.sub (ws' := [(h, .inr (0, [ps_tape, .ref rp, ps_sha, ps_stock, ps_intake, ps_view, ps_text, ps_maker, ps_recording, ps_tapeLength, ps_lastFault])), (rp, .inl (cR, 8, .inr (.inr (.inr (.inr rf)))))]) [0, 1] rfl
  have hDc := hD.sub (ws' := [(h, .inr (0, [ps_tape, .ref rp, ps_sha, ps_stock, ps_intake, ps_view, ps_text, ps_maker, ps_recording, ps_tapeLength, ps_lastFault])), (rp, .inl (cR, 8, .inr (.inr (.inr (.inr rf)))))]) [0, 1] (by decide) rfl
  have hFc := va_free (wc := [(h, .inr (0, [ps_tape, .ref rp, ps_sha, ps_stock, ps_intake, ps_view, ps_text, ps_maker, ps_recording, ps_tapeLength, ps_lastFault])), (rp, .inl (cR, 8, .inr (.inr (.inr (.inr rf)))))]) hD hS hA [0, 1] rfl
  refine xc_call (xc_runV (As := [.int p0, .int p1, .int p2, .int p3]) (rest := [.int 0, .ref o]) (C := "PatchStore") ⟨hx, hb, hml, hown, hts⟩ (m_PS_lineX l dC dI cI cB cL cZ cR hlt h rp ps_tape ps_sha ps_stock ps_intake ps_view ps_text ps_maker ps_recording ps_tapeLength ps_lastFault g rf p0 p1 p2 p3 s.heap.size hrf hbadr) (xc_bOf 4 hts (xg_in gw_1362) (xc_Is.code (hts _ gw_1362)) rfl rfl (hts _ gw_1) (by decide +kernel) ⟨Nat.le_of_ble_eq_true rfl, Nat.le_of_ble_eq_true rfl⟩) (hts _ gw_1359) (hts _ gw_1360) (hts _ gw_1361) ⟨xw_blindx, va_recv hK hPc (ci := 0) (q0 := 0) rfl rfl, fun U hU hW => ⟨rfl, by rw [hU], by rw [hU]; exact hPc, va_K.moved hW.alike hK, hDc.weaken (fun _ _ _ _ => trivial), xg_N.warm hW hN, by rw [hU]; exact ((hTh.kept (fun a h1 h2 => hS.2.1 a h1 h2)).narrow hFc).moved hW.alike⟩⟩ rfl rfl hl.1 rfl (lv_room (Nat.le_of_ble_eq_true rfl)) d_Lw_line_9 ⟨Nat.le_of_ble_eq_true rfl, Nat.le_of_ble_eq_true rfl⟩) hS (fun q _ h => hFc q h) hFc (fun v9 u t H1 locs ht hvm hw hB hz1 hk1 hS => ?_) (fun x9 C9 u t H1 locs ht hvm hw hex hB hz1 hk1 hS => ?_)
  · skip
    exact False.elim hw
  · have hC9 : C9 = "java/util/NoSuchElementException" := by
      exact hw
    obtain ⟨hP1, hK1, hD1⟩ := hB
    rw [ht] at hP1
    obtain ⟨hP, hD⟩ := va_join (wr := [(o, .inl (cL, 1, .inr (.inl oo9)))]) (w1 := [(h, .inr (0, [ps_tape, .ref rp, ps_sha, ps_stock, ps_intake, ps_view, ps_text, ps_maker, ps_recording, ps_tapeLength, ps_lastFault])), (rp, .inl (cR, 8, .inr (.inr (.inr (.inr rf)))))]) hP hD [0, 1] [2] rfl rfl (by decide) (by decide) hk1 hFc hP1 hD1
    generalize H1 = H at hP hS ht ⊢
    have hP : va_P (dC, dI) classes [(o, .inl (cL, 1, .inr (.inl oo9))), (h, .inr (0, [ps_tape, .ref rp, ps_sha, ps_stock, ps_intake, ps_view, ps_text, ps_maker, ps_recording, ps_tapeLength, ps_lastFault])), (rp, .inl (cR, 8, .inr (.inr (.inr (.inr rf)))))] H := hP
    have hD : va_D A [(o, .inl (cL, 1, .inr (.inl oo9))), (h, .inr (0, [ps_tape, .ref rp, ps_sha, ps_stock, ps_intake, ps_view, ps_text, ps_maker, ps_recording, ps_tapeLength, ps_lastFault])), (rp, .inl (cR, 8, .inr (.inr (.inr (.inr rf)))))] := hD
    obtain rfl := hC9
    have hcd : cd_line "java/util/NoSuchElementException" = 1 := by first | decide | (simp [cd_line]; done)
    refine xc_catch (tgt := 17) hown hrows ht hvm hex ⟨⟨by decide, by decide⟩, by decide, "java/util/NoSuchElementException", hts _ gw_695, Or.inl ⟨va_Nw.use rfl (hN _ gn_706), rfl⟩⟩ ?_
    refine lv_astore (lv' := [(6, .ref x9), (0, .ref h), (1, .int p0), (2, .int p1), (3, .int p2), (4, .int p3), (5, .ref o)]) hx hb d_Lw_line_17 hl (by decide) rfl (fun ls hl => ?_)
    refine lv_iconst (v := 1) hx hb d_Lw_line_19 (by decide) ?_
    have hP := hP.sub (ws' := [(h, .inr (0, [ps_tape, .ref rp, ps_sha, ps_stock, ps_intake, ps_view, ps_text, ps_maker, ps_recording, ps_tapeLength, ps_lastFault])), (rp, .inl (cR, 8, .inr (.inr (.inr (.inr rf))))), (o, .inl (cL, 1, .inr (.inl oo9)))]) [1, 2, 0] rfl
    have hD := hD.sub (ws' := [(h, .inr (0, [ps_tape, .ref rp, ps_sha, ps_stock, ps_intake, ps_view, ps_text, ps_maker, ps_recording, ps_tapeLength, ps_lastFault])), (rp, .inl (cR, 8, .inr (.inr (.inr (.inr rf))))), (o, .inl (cL, 1, .inr (.inl oo9)))]) [1, 2, 0] (by decide) rfl
    refine W.widen (k := 2) (n := 12) (Nat.le_of_ble_eq_true rfl) (Nat.le_of_ble_eq_true rfl) ?_
    exact xc_ret (W.iret (v := 1) hx hb hr (fun t ht hW => ⟨Or.inl ⟨_, (u, oo9), rfl, Or.inr ⟨_, congrArg (fun z => some (Value.int z)) hcd.symm, hw⟩, (by rw [ht]; exact hP), va_K.moved hW.alike hK, hD⟩, hS.F ht⟩) hS.2.2 d_Lw_line_20)
set_option maxHeartbeats 4000000 in
set_option maxRecDepth 100000 in
/-- the law's read -/
theorem m_L_readX (l : Launch) (dC : Nat → ClassId) (dI : Nat → Nat → Nat) (cI cB cL cZ cR : ClassId) (hlt : xl_T l) (h rp : Nat) (ps_tape ps_sha ps_stock ps_intake ps_view ps_text ps_maker ps_recording ps_tapeLength ps_lastFault : Value) (g : Nat → Nat) (rf : Nat → Option Nat) (p0 : Int32) (o : Nat) (oo9 : Nat → Int64) (sz : Nat) (hrf : ∀ k, k < 8 → rf k = some (g k)) (hbadr : ¬ ∃ n : Nat, n < 8 ∧ p0 = nI n) : xc_Met l y_Lw_read ws_Lw_read ({ frames := 14, cells := 2, slots := 12, locals := 340 }) (xw_Pl dC dI [(cI, .int), (cB, .byte), (cL, .long), (cZ, .boolean), (cR, .object "PatchStore$Repository")] [.ref h, .int p0, .ref o] [(h, .inr (0, [ps_tape, .ref rp, ps_sha, ps_stock, ps_intake, ps_view, ps_text, ps_maker, ps_recording, ps_tapeLength, ps_lastFault])), (rp, .inl (cR, 8, .inr (.inr (.inr (.inr rf))))), (o, .inl (cL, 1, .inr (.inl oo9)))] sz) (xc_Q (S := (Unit) × (Nat → Int64)) (fun v (w : (Unit) × (Nat → Int64)) => (∃ r : Int32, v = some (.int 0) ∧ w.2 0 = r.toInt64 ∧ (fun (_ : Option Value) (_ : Unit) => False) (some (.int r)) w.1) ∨ (∃ C : String, v = some (.int (cd_read C)) ∧ (fun (C : String) (_ : Unit) => C = "java/util/NoSuchElementException") C w.1)) (fun _ _ => False) (fun w t => xw_B dC dI [(cI, .int), (cB, .byte), (cL, .long), (cZ, .boolean), (cR, .object "PatchStore$Repository")] (va_A [(h, .inr (0, [ps_tape, .ref rp, ps_sha, ps_stock, ps_intake, ps_view, ps_text, ps_maker, ps_recording, ps_tapeLength, ps_lastFault])), (rp, .inl (cR, 8, .inr (.inr (.inr (.inr rf))))), (o, .inl (cL, 1, .inr (.inl oo9)))] sz) [(h, .inr (0, [ps_tape, .ref rp, ps_sha, ps_stock, ps_intake, ps_view, ps_text, ps_maker, ps_recording, ps_tapeLength, .int 0])), (rp, .inl (cR, 8, .inr (.inr (.inr (.inr rf))))), (o, .inl (cL, 1, .inr (.inl w.2)))] t) (va_A [(h, .inr (0, [ps_tape, .ref rp, ps_sha, ps_stock, ps_intake, ps_view, ps_text, ps_maker, ps_recording, ps_tapeLength, ps_lastFault])), (rp, .inl (cR, 8, .inr (.inr (.inr (.inr rf))))), (o, .inl (cL, 1, .inr (.inl oo9)))] sz)) 2 12 (va_A [(h, .inr (0, [ps_tape, .ref rp, ps_sha, ps_stock, ps_intake, ps_view, ps_text, ps_maker, ps_recording, ps_tapeLength, ps_lastFault])), (rp, .inl (cR, 8, .inr (.inr (.inr (.inr rf))))), (o, .inl (cL, 1, .inr (.inl oo9)))] sz) := by
  refine xc_ofWH (cc := method_8_code) (maxL := 4) (ret := (Option.some Jvm.ClassFile.FieldType.int)) (hh := [((0 : Nat), (9 : Nat), (12 : Nat), (25 : Nat)), ((0 : Nat), (9 : Nat), (15 : Nat), (19 : Nat)), ((0 : Nat), (9 : Nat), (18 : Nat), (13 : Nat))]) (by decide) rfl ?_
  intro p e s m args below meth c s₁ B hml hrows hv
  obtain ⟨rfl, hsz, hP, hK, hD0, hN, hTh, hNc⟩ := hv
  have hx := B.exec
  have hb := B.bytes
  have hr := B.returns
  have hts0 := atoms_spec (ws := ws_Lw_read) B.pre
  have hts : ∀ w ∈ xg_1, w.before _ s = true := fun w h => hts0 w (List.mem_cons_of_mem _ h)
  have hown : s.vm.findClass "PatchStoreLaw" = some m.cls := findClass_of_methodNamed B.named
  have hlocks := B.notSynchronized
  subst hsz
  have hD := hD0.self (sz := s.heap.size)
  generalize hAe : va_A [(h, .inr (0, [ps_tape, .ref rp, ps_sha, ps_stock, ps_intake, ps_view, ps_text, ps_maker, ps_recording, ps_tapeLength, ps_lastFault])), (rp, .inl (cR, 8, .inr (.inr (.inr (.inr rf))))), (o, .inl (cL, 1, .inr (.inl oo9)))] s.heap.size = A at hD hTh ⊢
  have hA : ∀ q : Nat, s.heap.size ≤ q → A q := fun q h => by rw [← hAe]; exact Or.inr h
  have hS : va_S A s.heap s.heap [] := va_S.rf
  have hl := lv_entry ([.ref h, .int p0, .ref o]) (n := 4) (Nat.le_of_ble_eq_true rfl)
  rw [lg_entry_eq]
  generalize (lg_sl ([.ref h, .int p0, .ref o]) ++ List.replicate (4 - (lg_sl ([.ref h, .int p0, .ref o])).length) Slot.unset).toArray = ls at hl ⊢
  have hl : lv_has ls 4 [(0, .ref h), (1, .int p0), (2, .ref o)] := hl
  refine lv_aload_n hx hb d_Lw_read_0 rfl (lv_at hl 2 rfl) ?_
  refine lv_iconst (v := 0) hx hb d_Lw_read_1 (by decide) ?_
  refine lv_aload_n hx hb d_Lw_read_2 rfl (lv_at hl 0 rfl) ?_
  refine lv_iload_n hx hb d_Lw_read_3 rfl (lv_at hl 1 rfl) ?_
  have hPc := hP.sub (ws' := [(h, .inr (0, [ps_tape, .ref rp, ps_sha, ps_stock, ps_intake, ps_view, ps_text, ps_maker, ps_recording, ps_tapeLength, ps_lastFault])), (rp, .inl (cR, 8, .inr (.inr (.inr (.inr rf)))))]) [0, 1] rfl
  have hDc := hD.sub (ws' := [(h, .inr (0, [ps_tape, .ref rp, ps_sha, ps_stock, ps_intake, ps_view, ps_text, ps_maker, ps_recording, ps_tapeLength, ps_lastFault])), (rp, .inl (cR, 8, .inr (.inr (.inr (.inr rf)))))]) [0, 1] (by decide) rfl
  have hFc := va_free (wc := [(h, .inr (0, [ps_tape, .ref rp, ps_sha, ps_stock, ps_intake, ps_view, ps_text, ps_maker, ps_recording, ps_tapeLength, ps_lastFault])), (rp, .inl (cR, 8, .inr (.inr (.inr (.inr rf)))))]) hD hS hA [0, 1] rfl
  refine xc_call (xc_runV (As := [.int p0]) (rest := [.int 0, .ref o]) (C := "PatchStore") ⟨hx, hb, hml, hown, hts⟩ (m_PS_readX l dC dI cI cB cL cZ cR hlt h rp ps_tape ps_sha ps_stock ps_intake ps_view ps_text ps_maker ps_recording ps_tapeLength ps_lastFault g rf p0 s.heap.size hrf hbadr) (xc_bOf 1 hts (xg_in gw_1206) (xc_Is.code (hts _ gw_1206)) rfl rfl (hts _ gw_1) (by decide +kernel) ⟨Nat.le_of_ble_eq_true rfl, Nat.le_of_ble_eq_true rfl⟩) (hts _ gw_1203) (hts _ gw_1204) (hts _ gw_1205) ⟨xw_blindx, va_recv hK hPc (ci := 0) (q0 := 0) rfl rfl, fun U hU hW => ⟨rfl, by rw [hU], by rw [hU]; exact hPc, va_K.moved hW.alike hK, hDc.weaken (fun _ _ _ _ => trivial), xg_N.warm hW hN, by rw [hU]; exact ((hTh.kept (fun a h1 h2 => hS.2.1 a h1 h2)).narrow hFc).moved hW.alike⟩⟩ rfl rfl hl.1 rfl (lv_room (Nat.le_of_ble_eq_true rfl)) d_Lw_read_4 ⟨Nat.le_of_ble_eq_true rfl, Nat.le_of_ble_eq_true rfl⟩) hS (fun q _ h => hFc q h) hFc (fun v9 u t H1 locs ht hvm hw hB hz1 hk1 hS => ?_) (fun x9 C9 u t H1 locs ht hvm hw hex hB hz1 hk1 hS => ?_)
  · skip
    exact False.elim hw
  · have hC9 : C9 = "java/util/NoSuchElementException" := by
      exact hw
    obtain ⟨hP1, hK1, hD1⟩ := hB
    rw [ht] at hP1
    obtain ⟨hP, hD⟩ := va_join (wr := [(o, .inl (cL, 1, .inr (.inl oo9)))]) (w1 := [(h, .inr (0, [ps_tape, .ref rp, ps_sha, ps_stock, ps_intake, ps_view, ps_text, ps_maker, ps_recording, ps_tapeLength, .int 0])), (rp, .inl (cR, 8, .inr (.inr (.inr (.inr rf)))))]) hP hD [0, 1] [2] rfl rfl (by decide) (by decide) hk1 hFc hP1 hD1
    generalize H1 = H at hP hS ht ⊢
    have hP : va_P (dC, dI) classes [(o, .inl (cL, 1, .inr (.inl oo9))), (h, .inr (0, [ps_tape, .ref rp, ps_sha, ps_stock, ps_intake, ps_view, ps_text, ps_maker, ps_recording, ps_tapeLength, .int 0])), (rp, .inl (cR, 8, .inr (.inr (.inr (.inr rf)))))] H := hP
    have hD : va_D A [(o, .inl (cL, 1, .inr (.inl oo9))), (h, .inr (0, [ps_tape, .ref rp, ps_sha, ps_stock, ps_intake, ps_view, ps_text, ps_maker, ps_recording, ps_tapeLength, .int 0])), (rp, .inl (cR, 8, .inr (.inr (.inr (.inr rf)))))] := hD
    obtain rfl := hC9
    have hcd : cd_read "java/util/NoSuchElementException" = 1 := by first | decide | (simp [cd_read]; done)
    refine xc_catch (tgt := 12) hown hrows ht hvm hex ⟨⟨by decide, by decide⟩, by decide, "java/util/NoSuchElementException", hts _ gw_695, Or.inl ⟨va_Nw.use rfl (hN _ gn_706), rfl⟩⟩ ?_
    refine lv_astore_n (lv' := [(3, .ref x9), (0, .ref h), (1, .int p0), (2, .ref o)]) hx hb d_Lw_read_12 rfl hl (by decide) rfl (fun ls hl => ?_)
    refine lv_iconst (v := 1) hx hb d_Lw_read_13 (by decide) ?_
    have hP := hP.sub (ws' := [(h, .inr (0, [ps_tape, .ref rp, ps_sha, ps_stock, ps_intake, ps_view, ps_text, ps_maker, ps_recording, ps_tapeLength, .int 0])), (rp, .inl (cR, 8, .inr (.inr (.inr (.inr rf))))), (o, .inl (cL, 1, .inr (.inl oo9)))]) [1, 2, 0] rfl
    have hD := hD.sub (ws' := [(h, .inr (0, [ps_tape, .ref rp, ps_sha, ps_stock, ps_intake, ps_view, ps_text, ps_maker, ps_recording, ps_tapeLength, .int 0])), (rp, .inl (cR, 8, .inr (.inr (.inr (.inr rf))))), (o, .inl (cL, 1, .inr (.inl oo9)))]) [1, 2, 0] (by decide) rfl
    refine W.widen (k := 2) (n := 12) (Nat.le_of_ble_eq_true rfl) (Nat.le_of_ble_eq_true rfl) ?_
    exact xc_ret (W.iret (v := 1) hx hb hr (fun t ht hW => ⟨Or.inl ⟨_, (u, oo9), rfl, Or.inr ⟨_, congrArg (fun z => some (Value.int z)) hcd.symm, hw⟩, (by rw [ht]; exact hP), va_K.moved hW.alike hK, hD⟩, hS.F ht⟩) hS.2.2 d_Lw_read_14)
set_option maxHeartbeats 4000000 in
set_option maxRecDepth 100000 in
/-- the law's feed -/
theorem m_L_feedG (l : Launch) (dC : Nat → ClassId) (dI : Nat → Nat → Nat) (cI cB cL cZ cR : ClassId) (hlt : xl_T l) (h tp : Nat) (v1 v2 v3 v4 v5 v6 v7 v8 : Value) (L : Nat) (flt : Int32) (f : Nat → Int32) (p0 p1 p2 p3 p4 : Int32) (o : Nat) (oo9 : Nat → Int64) (sz : Nat) (hL : L ≤ 65536) : xc_Met l y_Lw_feed ws_Lw_feed ({ frames := 10, cells := 1, slots := 6, locals := 240 }) (xw_Pl dC dI [(cI, .int), (cB, .byte), (cL, .long), (cZ, .boolean), (cR, .object "PatchStore$Repository")] [.ref h, .int p0, .int p1, .int p2, .int p3, .int p4, .ref o] [(h, .inr (0, [.ref tp, v1, v2, v3, v4, v5, v6, v7, v8, .int (nI L), .int flt])), (tp, .inl (cB, 65536, .inl f)), (o, .inl (cL, 1, .inr (.inl oo9)))] sz) (xc_Q (S := (Nat × (Nat → Int32)) × (Nat → Int64)) (fun v (w : (Nat × (Nat → Int32)) × (Nat → Int64)) => (∃ r : Int32, v = some (.int 0) ∧ w.2 0 = r.toInt64 ∧ (fun (v : Option Value) (u : Nat × (Nat → Int32)) => L + 20 ≤ 65536 ∧ v = some (.int (nI (L + 20))) ∧ u = (L + 20, ps_put20 f L p0 p1 p2 p3 p4)) (some (.int r)) w.1) ∨ (∃ C : String, v = some (.int (cd_feed C)) ∧ (fun (C : String) (u : Nat × (Nat → Int32)) => 65536 < L + 20 ∧ C = "java/lang/IllegalStateException" ∧ u = (L, f)) C w.1)) (fun _ _ => False) (fun w t => xw_B dC dI [(cI, .int), (cB, .byte), (cL, .long), (cZ, .boolean), (cR, .object "PatchStore$Repository")] (va_A [(h, .inr (0, [.ref tp, v1, v2, v3, v4, v5, v6, v7, v8, .int (nI L), .int flt])), (tp, .inl (cB, 65536, .inl f)), (o, .inl (cL, 1, .inr (.inl oo9)))] sz) [(h, .inr (0, [.ref tp, v1, v2, v3, v4, v5, v6, v7, v8, .int (nI w.1.1), .int flt])), (tp, .inl (cB, 65536, .inl w.1.2)), (o, .inl (cL, 1, .inr (.inl w.2)))] t) (va_A [(h, .inr (0, [.ref tp, v1, v2, v3, v4, v5, v6, v7, v8, .int (nI L), .int flt])), (tp, .inl (cB, 65536, .inl f)), (o, .inl (cL, 1, .inr (.inl oo9)))] sz)) 1 6 (va_A [(h, .inr (0, [.ref tp, v1, v2, v3, v4, v5, v6, v7, v8, .int (nI L), .int flt])), (tp, .inl (cB, 65536, .inl f)), (o, .inl (cL, 1, .inr (.inl oo9)))] sz) := by
  refine xc_ofWH (cc := method_3_code) (maxL := 8) (ret := (Option.some Jvm.ClassFile.FieldType.int)) (hh := [((0 : Nat), (16 : Nat), (19 : Nat), (13 : Nat))]) (by decide) rfl ?_
  intro p e s m args below meth c s₁ B hml hrows hv
  obtain ⟨rfl, hsz, hP, hK, hD0, hN, hTh, hNc⟩ := hv
  have hx := B.exec
  have hb := B.bytes
  have hr := B.returns
  have hts0 := atoms_spec (ws := ws_Lw_feed) B.pre
  have hts : ∀ w ∈ xg_1, w.before _ s = true := fun w h => hts0 w (List.mem_cons_of_mem _ h)
  have hown : s.vm.findClass "PatchStoreLaw" = some m.cls := findClass_of_methodNamed B.named
  have hlocks := B.notSynchronized
  subst hsz
  have hD := hD0.self (sz := s.heap.size)
  generalize hAe : va_A [(h, .inr (0, [.ref tp, v1, v2, v3, v4, v5, v6, v7, v8, .int (nI L), .int flt])), (tp, .inl (cB, 65536, .inl f)), (o, .inl (cL, 1, .inr (.inl oo9)))] s.heap.size = A at hD hTh ⊢
  have hA : ∀ q : Nat, s.heap.size ≤ q → A q := fun q h => by rw [← hAe]; exact Or.inr h
  have hS : va_S A s.heap s.heap [] := va_S.rf
  have hl := lv_entry ([.ref h, .int p0, .int p1, .int p2, .int p3, .int p4, .ref o]) (n := 8) (Nat.le_of_ble_eq_true rfl)
  rw [lg_entry_eq]
  generalize (lg_sl ([.ref h, .int p0, .int p1, .int p2, .int p3, .int p4, .ref o]) ++ List.replicate (8 - (lg_sl ([.ref h, .int p0, .int p1, .int p2, .int p3, .int p4, .ref o])).length) Slot.unset).toArray = ls at hl ⊢
  have hl : lv_has ls 8 [(0, .ref h), (1, .int p0), (2, .int p1), (3, .int p2), (4, .int p3), (5, .int p4), (6, .ref o)] := hl
  refine lv_aload hx hb d_Lw_feed_0 (lv_at hl 6 rfl) ?_
  refine lv_iconst (v := 0) hx hb d_Lw_feed_2 (by decide) ?_
  refine lv_aload_n hx hb d_Lw_feed_3 rfl (lv_at hl 0 rfl) ?_
  refine lv_iload_n hx hb d_Lw_feed_4 rfl (lv_at hl 1 rfl) ?_
  refine lv_iload_n hx hb d_Lw_feed_5 rfl (lv_at hl 2 rfl) ?_
  refine lv_iload_n hx hb d_Lw_feed_6 rfl (lv_at hl 3 rfl) ?_
  refine lv_iload hx hb d_Lw_feed_7 (lv_at hl 4 rfl) ?_
  refine lv_iload hx hb d_Lw_feed_9 (lv_at hl 5 rfl) ?_
  have hPc := hP.sub (ws' := [(h, .inr (0, [.ref tp, v1, v2, v3, v4, v5, v6, v7, v8, .int (nI L), .int flt])), (tp, .inl (cB, 65536, .inl f))]) [0, 1] rfl
  have hDc := hD.sub (ws' := [(h, .inr (0, [.ref tp, v1, v2, v3, v4, v5, v6, v7, v8, .int (nI L), .int flt])), (tp, .inl (cB, 65536, .inl f))]) [0, 1] (by decide) rfl
  have hFc := va_free (wc := [(h, .inr (0, [.ref tp, v1, v2, v3, v4, v5, v6, v7, v8, .int (nI L), .int flt])), (tp, .inl (cB, 65536, .inl f))]) hD hS hA [0, 1] rfl
  refine xc_call (xc_runV (As := [.int p0, .int p1, .int p2, .int p3, .int p4]) (rest := [.int 0, .ref o]) (C := "PatchStore") ⟨hx, hb, hml, hown, hts⟩ (m_PS_feed l dC dI cI cB cL cZ cR hlt h tp v1 v2 v3 v4 v5 v6 v7 v8 L flt f p0 p1 p2 p3 p4 s.heap.size hL) (xc_bOf 5 hts (xg_in gw_597) (xc_Is.code (hts _ gw_597)) rfl rfl (hts _ gw_1) (by decide +kernel) ⟨Nat.le_of_ble_eq_true rfl, Nat.le_of_ble_eq_true rfl⟩) (hts _ gw_594) (hts _ gw_595) (hts _ gw_596) ⟨xw_blindx, va_recv hK hPc (ci := 0) (q0 := 0) rfl rfl, fun U hU hW => ⟨rfl, by rw [hU], by rw [hU]; exact hPc, va_K.moved hW.alike hK, hDc.weaken (fun _ _ _ _ => trivial), xg_N.warm hW hN, by rw [hU]; exact ((hTh.kept (fun a h1 h2 => hS.2.1 a h1 h2)).narrow hFc).moved hW.alike⟩⟩ rfl rfl hl.1 rfl (lv_room (Nat.le_of_ble_eq_true rfl)) d_Lw_feed_11 ⟨Nat.le_of_ble_eq_true rfl, Nat.le_of_ble_eq_true rfl⟩) hS (fun q _ h => hFc q h) hFc (fun v9 u t H1 locs ht hvm hw hB hz1 hk1 hS => ?_) (fun x9 C9 u t H1 locs ht hvm hw hex hB hz1 hk1 hS => ?_)
  · obtain ⟨r8, hr8⟩ : ∃ r8 : Int32, v9 = some (.int r8) := by
      exact ⟨_, hw.2.1⟩
    subst hr8
    obtain ⟨hP1, hK1, hD1⟩ := hB
    rw [ht] at hP1
    obtain ⟨hP, hD⟩ := va_join (wr := [(o, .inl (cL, 1, .inr (.inl oo9)))]) (w1 := [(h, .inr (0, [.ref tp, v1, v2, v3, v4, v5, v6, v7, v8, .int (nI u.1), .int flt])), (tp, .inl (cB, 65536, .inl u.2))]) hP hD [0, 1] [2] rfl rfl (by decide) (by decide) hk1 hFc hP1 hD1
    generalize H1 = H at hP hS ht ⊢
    have hP : va_P (dC, dI) classes [(o, .inl (cL, 1, .inr (.inl oo9))), (h, .inr (0, [.ref tp, v1, v2, v3, v4, v5, v6, v7, v8, .int (nI u.1), .int flt])), (tp, .inl (cB, 65536, .inl u.2))] H := hP
    have hD : va_D A [(o, .inl (cL, 1, .inr (.inl oo9))), (h, .inr (0, [.ref tp, v1, v2, v3, v4, v5, v6, v7, v8, .int (nI u.1), .int flt])), (tp, .inl (cB, 65536, .inl u.2))] := hD
    refine W.eq (g2 := F0 m 14 ls [.int r8, .int 0, .ref o]) rfl ?_
    refine W.widen (k := 1) (n := 6) (Nat.le_of_ble_eq_true rfl) (Nat.le_of_ble_eq_true rfl) ?_
    refine lv_i2l hx hb d_Lw_feed_14 rfl ?_
    refine va_last hx hb hK hP hD hS 0 2 rfl rfl (vp_in_nI (n := 0) (by omega) (by omega)) d_Lw_feed_15 (fun H locs hP hD hS => ?_)
    rw [show (0 : Int32).toNatClampNeg = 0 from rfl] at hP hD
    have hP : va_P (dC, dI) classes [(o, .inl (cL, 1, .inr (.inl (vp_updL oo9 0 ((r8 : Int32).toInt64))))), (h, .inr (0, [.ref tp, v1, v2, v3, v4, v5, v6, v7, v8, .int (nI u.1), .int flt])), (tp, .inl (cB, 65536, .inl u.2))] H := hP
    have hD : va_D A [(o, .inl (cL, 1, .inr (.inl (vp_updL oo9 0 ((r8 : Int32).toInt64))))), (h, .inr (0, [.ref tp, v1, v2, v3, v4, v5, v6, v7, v8, .int (nI u.1), .int flt])), (tp, .inl (cB, 65536, .inl u.2))] := hD
    refine lv_goto (tgt := 23) hx hb d_Lw_feed_16 (by decide) ?_
    refine lv_iconst (v := 0) hx hb d_Lw_feed_23 (by decide) ?_
    have hP := hP.sub (ws' := [(h, .inr (0, [.ref tp, v1, v2, v3, v4, v5, v6, v7, v8, .int (nI u.1), .int flt])), (tp, .inl (cB, 65536, .inl u.2)), (o, .inl (cL, 1, .inr (.inl (vp_updL oo9 0 ((r8 : Int32).toInt64)))))]) [1, 2, 0] rfl
    have hD := hD.sub (ws' := [(h, .inr (0, [.ref tp, v1, v2, v3, v4, v5, v6, v7, v8, .int (nI u.1), .int flt])), (tp, .inl (cB, 65536, .inl u.2)), (o, .inl (cL, 1, .inr (.inl (vp_updL oo9 0 ((r8 : Int32).toInt64)))))]) [1, 2, 0] (by decide) rfl
    refine W.widen (k := 1) (n := 6) (Nat.le_of_ble_eq_true rfl) (Nat.le_of_ble_eq_true rfl) ?_
    exact xc_ret (W.iret (v := 0) hx hb hr (fun t ht hW => ⟨Or.inl ⟨_, (u, vp_updL oo9 0 ((r8 : Int32).toInt64)), rfl, Or.inl ⟨r8, rfl, rfl, hw⟩, (by rw [ht]; exact hP), va_K.moved hW.alike hK, hD⟩, hS.F ht⟩) hS.2.2 d_Lw_feed_24)
  · have hC9 : C9 = "java/lang/IllegalStateException" := by
      exact hw.2.1
    obtain ⟨hP1, hK1, hD1⟩ := hB
    rw [ht] at hP1
    obtain ⟨hP, hD⟩ := va_join (wr := [(o, .inl (cL, 1, .inr (.inl oo9)))]) (w1 := [(h, .inr (0, [.ref tp, v1, v2, v3, v4, v5, v6, v7, v8, .int (nI u.1), .int flt])), (tp, .inl (cB, 65536, .inl u.2))]) hP hD [0, 1] [2] rfl rfl (by decide) (by decide) hk1 hFc hP1 hD1
    generalize H1 = H at hP hS ht ⊢
    have hP : va_P (dC, dI) classes [(o, .inl (cL, 1, .inr (.inl oo9))), (h, .inr (0, [.ref tp, v1, v2, v3, v4, v5, v6, v7, v8, .int (nI u.1), .int flt])), (tp, .inl (cB, 65536, .inl u.2))] H := hP
    have hD : va_D A [(o, .inl (cL, 1, .inr (.inl oo9))), (h, .inr (0, [.ref tp, v1, v2, v3, v4, v5, v6, v7, v8, .int (nI u.1), .int flt])), (tp, .inl (cB, 65536, .inl u.2))] := hD
    obtain rfl := hC9
    have hcd : cd_feed "java/lang/IllegalStateException" = 1 := by first | decide | (simp [cd_feed]; done)
    refine xc_catch (tgt := 19) hown hrows ht hvm hex ⟨⟨by decide, by decide⟩, by decide, "java/lang/IllegalStateException", hts _ gw_593, Or.inl ⟨va_Nw.use rfl (hN _ gn_600), rfl⟩⟩ ?_
    refine lv_astore (lv' := [(7, .ref x9), (0, .ref h), (1, .int p0), (2, .int p1), (3, .int p2), (4, .int p3), (5, .int p4), (6, .ref o)]) hx hb d_Lw_feed_19 hl (by decide) rfl (fun ls hl => ?_)
    refine lv_iconst (v := 1) hx hb d_Lw_feed_21 (by decide) ?_
    have hP := hP.sub (ws' := [(h, .inr (0, [.ref tp, v1, v2, v3, v4, v5, v6, v7, v8, .int (nI u.1), .int flt])), (tp, .inl (cB, 65536, .inl u.2)), (o, .inl (cL, 1, .inr (.inl oo9)))]) [1, 2, 0] rfl
    have hD := hD.sub (ws' := [(h, .inr (0, [.ref tp, v1, v2, v3, v4, v5, v6, v7, v8, .int (nI u.1), .int flt])), (tp, .inl (cB, 65536, .inl u.2)), (o, .inl (cL, 1, .inr (.inl oo9)))]) [1, 2, 0] (by decide) rfl
    refine W.widen (k := 1) (n := 6) (Nat.le_of_ble_eq_true rfl) (Nat.le_of_ble_eq_true rfl) ?_
    exact xc_ret (W.iret (v := 1) hx hb hr (fun t ht hW => ⟨Or.inl ⟨_, (u, oo9), rfl, Or.inr ⟨_, congrArg (fun z => some (Value.int z)) hcd.symm, hw⟩, (by rw [ht]; exact hP), va_K.moved hW.alike hK, hD⟩, hS.F ht⟩) hS.2.2 d_Lw_feed_22)
set_option maxHeartbeats 4000000 in
set_option maxRecDepth 100000 in
/-- the law's end -/
theorem m_L_endG (l : Launch) (dC : Nat → ClassId) (dI : Nat → Nat → Nat) (cI cB cL cZ cR : ClassId) (hlt : xl_T l) (h tp : Nat) (v1 v2 v3 v4 v5 v6 v7 v8 : Value) (L : Nat) (flt : Int32) (f : Nat → Int32) (p0 : Int32) (o : Nat) (oo9 : Nat → Int64) (sz : Nat) (hL : L ≤ 65536) : xc_Met l y_Lw_end ws_Lw_end ({ frames := 10, cells := 1, slots := 6, locals := 240 }) (xw_Pl dC dI [(cI, .int), (cB, .byte), (cL, .long), (cZ, .boolean), (cR, .object "PatchStore$Repository")] [.ref h, .int p0, .ref o] [(h, .inr (0, [.ref tp, v1, v2, v3, v4, v5, v6, v7, v8, .int (nI L), .int flt])), (o, .inl (cL, 1, .inr (.inl oo9)))] sz) (xc_Q (S := (Nat) × (Nat → Int64)) (fun v (w : (Nat) × (Nat → Int64)) => (∃ r : Int32, v = some (.int 0) ∧ w.2 0 = r.toInt64 ∧ (fun (v : Option Value) (u : Nat) => u ≤ L ∧ v = some (.int (nI u)) ∧ p0 = nI u) (some (.int r)) w.1) ∨ (∃ C : String, v = some (.int (cd_end C)) ∧ (fun (C : String) (u : Nat) => ¬ ps_end_ok p0 L ∧ C = "java/lang/IllegalArgumentException" ∧ u = L) C w.1)) (fun _ _ => False) (fun w t => xw_B dC dI [(cI, .int), (cB, .byte), (cL, .long), (cZ, .boolean), (cR, .object "PatchStore$Repository")] (va_A [(h, .inr (0, [.ref tp, v1, v2, v3, v4, v5, v6, v7, v8, .int (nI L), .int flt])), (o, .inl (cL, 1, .inr (.inl oo9)))] sz) [(h, .inr (0, [.ref tp, v1, v2, v3, v4, v5, v6, v7, v8, .int (nI w.1), .int flt])), (o, .inl (cL, 1, .inr (.inl w.2)))] t) (va_A [(h, .inr (0, [.ref tp, v1, v2, v3, v4, v5, v6, v7, v8, .int (nI L), .int flt])), (o, .inl (cL, 1, .inr (.inl oo9)))] sz)) 1 6 (va_A [(h, .inr (0, [.ref tp, v1, v2, v3, v4, v5, v6, v7, v8, .int (nI L), .int flt])), (o, .inl (cL, 1, .inr (.inl oo9)))] sz) := by
  refine xc_ofWH (cc := method_4_code) (maxL := 4) (ret := (Option.some Jvm.ClassFile.FieldType.int)) (hh := [((0 : Nat), (9 : Nat), (12 : Nat), (19 : Nat))]) (by decide) rfl ?_
  intro p e s m args below meth c s₁ B hml hrows hv
  obtain ⟨rfl, hsz, hP, hK, hD0, hN, hTh, hNc⟩ := hv
  have hx := B.exec
  have hb := B.bytes
  have hr := B.returns
  have hts0 := atoms_spec (ws := ws_Lw_end) B.pre
  have hts : ∀ w ∈ xg_1, w.before _ s = true := fun w h => hts0 w (List.mem_cons_of_mem _ h)
  have hown : s.vm.findClass "PatchStoreLaw" = some m.cls := findClass_of_methodNamed B.named
  have hlocks := B.notSynchronized
  subst hsz
  have hD := hD0.self (sz := s.heap.size)
  generalize hAe : va_A [(h, .inr (0, [.ref tp, v1, v2, v3, v4, v5, v6, v7, v8, .int (nI L), .int flt])), (o, .inl (cL, 1, .inr (.inl oo9)))] s.heap.size = A at hD hTh ⊢
  have hA : ∀ q : Nat, s.heap.size ≤ q → A q := fun q h => by rw [← hAe]; exact Or.inr h
  have hS : va_S A s.heap s.heap [] := va_S.rf
  have hl := lv_entry ([.ref h, .int p0, .ref o]) (n := 4) (Nat.le_of_ble_eq_true rfl)
  rw [lg_entry_eq]
  generalize (lg_sl ([.ref h, .int p0, .ref o]) ++ List.replicate (4 - (lg_sl ([.ref h, .int p0, .ref o])).length) Slot.unset).toArray = ls at hl ⊢
  have hl : lv_has ls 4 [(0, .ref h), (1, .int p0), (2, .ref o)] := hl
  refine lv_aload_n hx hb d_Lw_end_0 rfl (lv_at hl 2 rfl) ?_
  refine lv_iconst (v := 0) hx hb d_Lw_end_1 (by decide) ?_
  refine lv_aload_n hx hb d_Lw_end_2 rfl (lv_at hl 0 rfl) ?_
  refine lv_iload_n hx hb d_Lw_end_3 rfl (lv_at hl 1 rfl) ?_
  have hPc := hP.sub (ws' := [(h, .inr (0, [.ref tp, v1, v2, v3, v4, v5, v6, v7, v8, .int (nI L), .int flt]))]) [0] rfl
  have hDc := hD.sub (ws' := [(h, .inr (0, [.ref tp, v1, v2, v3, v4, v5, v6, v7, v8, .int (nI L), .int flt]))]) [0] (by decide) rfl
  have hFc := va_free (wc := [(h, .inr (0, [.ref tp, v1, v2, v3, v4, v5, v6, v7, v8, .int (nI L), .int flt]))]) hD hS hA [0] rfl
  refine xc_call (xc_runV (As := [.int p0]) (rest := [.int 0, .ref o]) (C := "PatchStore") ⟨hx, hb, hml, hown, hts⟩ (m_PS_end l dC dI cI cB cL cZ cR hlt h tp v1 v2 v3 v4 v5 v6 v7 v8 L flt f p0 s.heap.size hL) (xc_bOf 1 hts (xg_in gw_676) (xc_Is.code (hts _ gw_676)) rfl rfl (hts _ gw_1) (by decide +kernel) ⟨Nat.le_of_ble_eq_true rfl, Nat.le_of_ble_eq_true rfl⟩) (hts _ gw_673) (hts _ gw_674) (hts _ gw_675) ⟨xw_blindx, va_recv hK hPc (ci := 0) (q0 := 0) rfl rfl, fun U hU hW => ⟨rfl, by rw [hU], by rw [hU]; exact hPc, va_K.moved hW.alike hK, hDc.weaken (fun _ _ _ _ => trivial), xg_N.warm hW hN, by rw [hU]; exact ((hTh.kept (fun a h1 h2 => hS.2.1 a h1 h2)).narrow hFc).moved hW.alike⟩⟩ rfl rfl hl.1 rfl (lv_room (Nat.le_of_ble_eq_true rfl)) d_Lw_end_4 ⟨Nat.le_of_ble_eq_true rfl, Nat.le_of_ble_eq_true rfl⟩) hS (fun q _ h => hFc q h) hFc (fun v9 u t H1 locs ht hvm hw hB hz1 hk1 hS => ?_) (fun x9 C9 u t H1 locs ht hvm hw hex hB hz1 hk1 hS => ?_)
  · obtain ⟨r8, hr8⟩ : ∃ r8 : Int32, v9 = some (.int r8) := by
      exact ⟨_, hw.2.1⟩
    subst hr8
    obtain ⟨hP1, hK1, hD1⟩ := hB
    rw [ht] at hP1
    obtain ⟨hP, hD⟩ := va_join (wr := [(o, .inl (cL, 1, .inr (.inl oo9)))]) (w1 := [(h, .inr (0, [.ref tp, v1, v2, v3, v4, v5, v6, v7, v8, .int (nI u), .int flt]))]) hP hD [0] [1] rfl rfl (by decide) (by decide) hk1 hFc hP1 hD1
    generalize H1 = H at hP hS ht ⊢
    have hP : va_P (dC, dI) classes [(o, .inl (cL, 1, .inr (.inl oo9))), (h, .inr (0, [.ref tp, v1, v2, v3, v4, v5, v6, v7, v8, .int (nI u), .int flt]))] H := hP
    have hD : va_D A [(o, .inl (cL, 1, .inr (.inl oo9))), (h, .inr (0, [.ref tp, v1, v2, v3, v4, v5, v6, v7, v8, .int (nI u), .int flt]))] := hD
    refine W.eq (g2 := F0 m 7 ls [.int r8, .int 0, .ref o]) rfl ?_
    refine W.widen (k := 1) (n := 6) (Nat.le_of_ble_eq_true rfl) (Nat.le_of_ble_eq_true rfl) ?_
    refine lv_i2l hx hb d_Lw_end_7 rfl ?_
    refine va_last hx hb hK hP hD hS 0 2 rfl rfl (vp_in_nI (n := 0) (by omega) (by omega)) d_Lw_end_8 (fun H locs hP hD hS => ?_)
    rw [show (0 : Int32).toNatClampNeg = 0 from rfl] at hP hD
    have hP : va_P (dC, dI) classes [(o, .inl (cL, 1, .inr (.inl (vp_updL oo9 0 ((r8 : Int32).toInt64))))), (h, .inr (0, [.ref tp, v1, v2, v3, v4, v5, v6, v7, v8, .int (nI u), .int flt]))] H := hP
    have hD : va_D A [(o, .inl (cL, 1, .inr (.inl (vp_updL oo9 0 ((r8 : Int32).toInt64))))), (h, .inr (0, [.ref tp, v1, v2, v3, v4, v5, v6, v7, v8, .int (nI u), .int flt]))] := hD
    refine lv_goto (tgt := 15) hx hb d_Lw_end_9 (by decide) ?_
    refine lv_iconst (v := 0) hx hb d_Lw_end_15 (by decide) ?_
    have hP := hP.sub (ws' := [(h, .inr (0, [.ref tp, v1, v2, v3, v4, v5, v6, v7, v8, .int (nI u), .int flt])), (o, .inl (cL, 1, .inr (.inl (vp_updL oo9 0 ((r8 : Int32).toInt64)))))]) [1, 0] rfl
    have hD := hD.sub (ws' := [(h, .inr (0, [.ref tp, v1, v2, v3, v4, v5, v6, v7, v8, .int (nI u), .int flt])), (o, .inl (cL, 1, .inr (.inl (vp_updL oo9 0 ((r8 : Int32).toInt64)))))]) [1, 0] (by decide) rfl
    refine W.widen (k := 1) (n := 6) (Nat.le_of_ble_eq_true rfl) (Nat.le_of_ble_eq_true rfl) ?_
    exact xc_ret (W.iret (v := 0) hx hb hr (fun t ht hW => ⟨Or.inl ⟨_, (u, vp_updL oo9 0 ((r8 : Int32).toInt64)), rfl, Or.inl ⟨r8, rfl, rfl, hw⟩, (by rw [ht]; exact hP), va_K.moved hW.alike hK, hD⟩, hS.F ht⟩) hS.2.2 d_Lw_end_16)
  · have hC9 : C9 = "java/lang/IllegalArgumentException" := by
      exact hw.2.1
    obtain ⟨hP1, hK1, hD1⟩ := hB
    rw [ht] at hP1
    obtain ⟨hP, hD⟩ := va_join (wr := [(o, .inl (cL, 1, .inr (.inl oo9)))]) (w1 := [(h, .inr (0, [.ref tp, v1, v2, v3, v4, v5, v6, v7, v8, .int (nI u), .int flt]))]) hP hD [0] [1] rfl rfl (by decide) (by decide) hk1 hFc hP1 hD1
    generalize H1 = H at hP hS ht ⊢
    have hP : va_P (dC, dI) classes [(o, .inl (cL, 1, .inr (.inl oo9))), (h, .inr (0, [.ref tp, v1, v2, v3, v4, v5, v6, v7, v8, .int (nI u), .int flt]))] H := hP
    have hD : va_D A [(o, .inl (cL, 1, .inr (.inl oo9))), (h, .inr (0, [.ref tp, v1, v2, v3, v4, v5, v6, v7, v8, .int (nI u), .int flt]))] := hD
    obtain rfl := hC9
    have hcd : cd_end "java/lang/IllegalArgumentException" = 1 := by first | decide | (simp [cd_end]; done)
    refine xc_catch (tgt := 12) hown hrows ht hvm hex ⟨⟨by decide, by decide⟩, by decide, "java/lang/IllegalArgumentException", hts _ gw_672, Or.inl ⟨va_Nw.use rfl (hN _ gn_679), rfl⟩⟩ ?_
    refine lv_astore_n (lv' := [(3, .ref x9), (0, .ref h), (1, .int p0), (2, .ref o)]) hx hb d_Lw_end_12 rfl hl (by decide) rfl (fun ls hl => ?_)
    refine lv_iconst (v := 1) hx hb d_Lw_end_13 (by decide) ?_
    have hP := hP.sub (ws' := [(h, .inr (0, [.ref tp, v1, v2, v3, v4, v5, v6, v7, v8, .int (nI u), .int flt])), (o, .inl (cL, 1, .inr (.inl oo9)))]) [1, 0] rfl
    have hD := hD.sub (ws' := [(h, .inr (0, [.ref tp, v1, v2, v3, v4, v5, v6, v7, v8, .int (nI u), .int flt])), (o, .inl (cL, 1, .inr (.inl oo9)))]) [1, 0] (by decide) rfl
    refine W.widen (k := 1) (n := 6) (Nat.le_of_ble_eq_true rfl) (Nat.le_of_ble_eq_true rfl) ?_
    exact xc_ret (W.iret (v := 1) hx hb hr (fun t ht hW => ⟨Or.inl ⟨_, (u, oo9), rfl, Or.inr ⟨_, congrArg (fun z => some (Value.int z)) hcd.symm, hw⟩, (by rw [ht]; exact hP), va_K.moved hW.alike hK, hD⟩, hS.F ht⟩) hS.2.2 d_Lw_end_14)
set_option maxHeartbeats 4000000 in
set_option maxRecDepth 100000 in
/-- the law's drop -/
theorem m_L_dropG (l : Launch) (dC : Nat → ClassId) (dI : Nat → Nat → Nat) (cI cB cL cZ cR : ClassId) (hlt : xl_T l) (h rp rr mb sk lbA : Nat) (ps_tape ps_sha ps_intake ps_view ps_text ps_maker ps_recording ps_tapeLength ps_lastFault rr_digest rr_digestVersion sk_bytes sk_from sk_firstDependency sk_firstChange sk_dependencies sk_hashes sk_byHash sk_leansOn sk_changes sk_lines sk_patches : Value) (S : Stk) (mw : Nat → Int64) (g : Nat → Nat) (rf : Nat → Option Nat) (zz vv r9 : Nat) (p1 : Int32) (o : Nat) (oo9 : Nat → Int64) (sz : Nat) (hrf : ∀ k, k < 8 → rf k = some (g k)) (hr9 : r9 < 8) (hg_rr : g r9 = rr) (hzz1 : 1 ≤ zz) : xc_Met l y_Lw_drop ws_Lw_drop ({ frames := 16, cells := 3, slots := 18, locals := 440 }) (xw_Pl dC dI [(cI, .int), (cB, .byte), (cL, .long), (cZ, .boolean), (cR, .object "PatchStore$Repository")] [.ref h, .int (nI r9), .int p1, .ref o] [(h, .inr (0, [ps_tape, .ref rp, ps_sha, .ref sk, ps_intake, ps_view, ps_text, ps_maker, ps_recording, ps_tapeLength, ps_lastFault])), (rp, .inl (cR, 8, .inr (.inr (.inr (.inr rf))))), (rr, .inr (7, [.ref mb, rr_digest, .int (nI zz), .int (nI vv), rr_digestVersion])), (mb, .inl (cL, 8, .inr (.inl mw))), (sk, .inr (9, [sk_bytes, sk_from, sk_firstDependency, sk_firstChange, sk_dependencies, sk_hashes, sk_byHash, sk_leansOn, .ref lbA, sk_changes, sk_lines, sk_patches])), (lbA, .inl (cL, 4000, .inr (.inl S.lb))), (o, .inl (cL, 1, .inr (.inl oo9)))] sz) (xc_Q (S := ((Nat → Int64) × Nat × Nat) × (Nat → Int64)) (fun v (w : ((Nat → Int64) × Nat × Nat) × (Nat → Int64)) => (∃ r : Int32, v = some (.int 0) ∧ w.2 0 = r.toInt64 ∧ (fun (v : Option Value) (u : (Nat → Int64) × Nat × Nat) => ∃ pp, pp < 500 ∧ p1 = nI pp ∧ bt mw pp = true ∧ bcs (fun i => S.lb (pp * 8 + i) &&& mw i) 8 ≤ 0 ∧ v = some (.int (nI (zz - 1))) ∧ u = (bt_un mw pp, zz - 1, vv + 1)) (some (.int r)) w.1) ∨ (∃ C : String, v = some (.int (cd_drop C)) ∧ (fun (C : String) (u : (Nat → Int64) × Nat × Nat) => u = (mw, zz, vv) ∧ ((¬ (∃ n : Nat, n < 500 ∧ p1 = nI n ∧ bt mw n = true) ∧ C = "java/util/NoSuchElementException") ∨ ∃ pp, pp < 500 ∧ p1 = nI pp ∧ bt mw pp = true ∧ ¬ bcs (fun i => S.lb (pp * 8 + i) &&& mw i) 8 ≤ 0 ∧ C = "java/lang/IllegalStateException")) C w.1)) (fun _ _ => False) (fun w t => xw_B dC dI [(cI, .int), (cB, .byte), (cL, .long), (cZ, .boolean), (cR, .object "PatchStore$Repository")] (va_A [(h, .inr (0, [ps_tape, .ref rp, ps_sha, .ref sk, ps_intake, ps_view, ps_text, ps_maker, ps_recording, ps_tapeLength, ps_lastFault])), (rp, .inl (cR, 8, .inr (.inr (.inr (.inr rf))))), (rr, .inr (7, [.ref mb, rr_digest, .int (nI zz), .int (nI vv), rr_digestVersion])), (mb, .inl (cL, 8, .inr (.inl mw))), (sk, .inr (9, [sk_bytes, sk_from, sk_firstDependency, sk_firstChange, sk_dependencies, sk_hashes, sk_byHash, sk_leansOn, .ref lbA, sk_changes, sk_lines, sk_patches])), (lbA, .inl (cL, 4000, .inr (.inl S.lb))), (o, .inl (cL, 1, .inr (.inl oo9)))] sz) [(h, .inr (0, [ps_tape, .ref rp, ps_sha, .ref sk, ps_intake, ps_view, ps_text, ps_maker, ps_recording, ps_tapeLength, ps_lastFault])), (rp, .inl (cR, 8, .inr (.inr (.inr (.inr rf))))), (rr, .inr (7, [.ref mb, rr_digest, .int (nI w.1.2.1), .int (nI w.1.2.2), rr_digestVersion])), (mb, .inl (cL, 8, .inr (.inl w.1.1))), (sk, .inr (9, [sk_bytes, sk_from, sk_firstDependency, sk_firstChange, sk_dependencies, sk_hashes, sk_byHash, sk_leansOn, .ref lbA, sk_changes, sk_lines, sk_patches])), (lbA, .inl (cL, 4000, .inr (.inl S.lb))), (o, .inl (cL, 1, .inr (.inl w.2)))] t) (va_A [(h, .inr (0, [ps_tape, .ref rp, ps_sha, .ref sk, ps_intake, ps_view, ps_text, ps_maker, ps_recording, ps_tapeLength, ps_lastFault])), (rp, .inl (cR, 8, .inr (.inr (.inr (.inr rf))))), (rr, .inr (7, [.ref mb, rr_digest, .int (nI zz), .int (nI vv), rr_digestVersion])), (mb, .inl (cL, 8, .inr (.inl mw))), (sk, .inr (9, [sk_bytes, sk_from, sk_firstDependency, sk_firstChange, sk_dependencies, sk_hashes, sk_byHash, sk_leansOn, .ref lbA, sk_changes, sk_lines, sk_patches])), (lbA, .inl (cL, 4000, .inr (.inl S.lb))), (o, .inl (cL, 1, .inr (.inl oo9)))] sz)) 3 18 (va_A [(h, .inr (0, [ps_tape, .ref rp, ps_sha, .ref sk, ps_intake, ps_view, ps_text, ps_maker, ps_recording, ps_tapeLength, ps_lastFault])), (rp, .inl (cR, 8, .inr (.inr (.inr (.inr rf))))), (rr, .inr (7, [.ref mb, rr_digest, .int (nI zz), .int (nI vv), rr_digestVersion])), (mb, .inl (cL, 8, .inr (.inl mw))), (sk, .inr (9, [sk_bytes, sk_from, sk_firstDependency, sk_firstChange, sk_dependencies, sk_hashes, sk_byHash, sk_leansOn, .ref lbA, sk_changes, sk_lines, sk_patches])), (lbA, .inl (cL, 4000, .inr (.inl S.lb))), (o, .inl (cL, 1, .inr (.inl oo9)))] sz) := by
  refine xc_ofWH (cc := method_11_code) (maxL := 5) (ret := (Option.some Jvm.ClassFile.FieldType.int)) (hh := [((0 : Nat), (10 : Nat), (13 : Nat), (25 : Nat)), ((0 : Nat), (10 : Nat), (17 : Nat), (13 : Nat))]) (by decide) rfl ?_
  intro p e s m args below meth c s₁ B hml hrows hv
  obtain ⟨rfl, hsz, hP, hK, hD0, hN, hTh, hNc⟩ := hv
  have hx := B.exec
  have hb := B.bytes
  have hr := B.returns
  have hts0 := atoms_spec (ws := ws_Lw_drop) B.pre
  have hts : ∀ w ∈ xg_1, w.before _ s = true := fun w h => hts0 w (List.mem_cons_of_mem _ h)
  have hown : s.vm.findClass "PatchStoreLaw" = some m.cls := findClass_of_methodNamed B.named
  have hlocks := B.notSynchronized
  subst hsz
  have hD := hD0.self (sz := s.heap.size)
  generalize hAe : va_A [(h, .inr (0, [ps_tape, .ref rp, ps_sha, .ref sk, ps_intake, ps_view, ps_text, ps_maker, ps_recording, ps_tapeLength, ps_lastFault])), (rp, .inl (cR, 8, .inr (.inr (.inr (.inr rf))))), (rr, .inr (7, [.ref mb, rr_digest, .int (nI zz), .int (nI vv), rr_digestVersion])), (mb, .inl (cL, 8, .inr (.inl mw))), (sk, .inr (9, [sk_bytes, sk_from, sk_firstDependency, sk_firstChange, sk_dependencies, sk_hashes, sk_byHash, sk_leansOn, .ref lbA, sk_changes, sk_lines, sk_patches])), (lbA, .inl (cL, 4000, .inr (.inl S.lb))), (o, .inl (cL, 1, .inr (.inl oo9)))] s.heap.size = A at hD hTh ⊢
  have hA : ∀ q : Nat, s.heap.size ≤ q → A q := fun q h => by rw [← hAe]; exact Or.inr h
  have hS : va_S A s.heap s.heap [] := va_S.rf
  have hl := lv_entry ([.ref h, .int (nI r9), .int p1, .ref o]) (n := 5) (Nat.le_of_ble_eq_true rfl)
  rw [lg_entry_eq]
  generalize (lg_sl ([.ref h, .int (nI r9), .int p1, .ref o]) ++ List.replicate (5 - (lg_sl ([.ref h, .int (nI r9), .int p1, .ref o])).length) Slot.unset).toArray = ls at hl ⊢
  have hl : lv_has ls 5 [(0, .ref h), (1, .int (nI r9)), (2, .int p1), (3, .ref o)] := hl
  refine lv_aload_n hx hb d_Lw_drop_0 rfl (lv_at hl 3 rfl) ?_
  refine lv_iconst (v := 0) hx hb d_Lw_drop_1 (by decide) ?_
  refine lv_aload_n hx hb d_Lw_drop_2 rfl (lv_at hl 0 rfl) ?_
  refine lv_iload_n hx hb d_Lw_drop_3 rfl (lv_at hl 1 rfl) ?_
  refine lv_iload_n hx hb d_Lw_drop_4 rfl (lv_at hl 2 rfl) ?_
  have hPc := hP.sub (ws' := [(h, .inr (0, [ps_tape, .ref rp, ps_sha, .ref sk, ps_intake, ps_view, ps_text, ps_maker, ps_recording, ps_tapeLength, ps_lastFault])), (rp, .inl (cR, 8, .inr (.inr (.inr (.inr rf))))), (rr, .inr (7, [.ref mb, rr_digest, .int (nI zz), .int (nI vv), rr_digestVersion])), (mb, .inl (cL, 8, .inr (.inl mw))), (sk, .inr (9, [sk_bytes, sk_from, sk_firstDependency, sk_firstChange, sk_dependencies, sk_hashes, sk_byHash, sk_leansOn, .ref lbA, sk_changes, sk_lines, sk_patches])), (lbA, .inl (cL, 4000, .inr (.inl S.lb)))]) [0, 1, 2, 3, 4, 5] rfl
  have hDc := hD.sub (ws' := [(h, .inr (0, [ps_tape, .ref rp, ps_sha, .ref sk, ps_intake, ps_view, ps_text, ps_maker, ps_recording, ps_tapeLength, ps_lastFault])), (rp, .inl (cR, 8, .inr (.inr (.inr (.inr rf))))), (rr, .inr (7, [.ref mb, rr_digest, .int (nI zz), .int (nI vv), rr_digestVersion])), (mb, .inl (cL, 8, .inr (.inl mw))), (sk, .inr (9, [sk_bytes, sk_from, sk_firstDependency, sk_firstChange, sk_dependencies, sk_hashes, sk_byHash, sk_leansOn, .ref lbA, sk_changes, sk_lines, sk_patches])), (lbA, .inl (cL, 4000, .inr (.inl S.lb)))]) [0, 1, 2, 3, 4, 5] (by decide) rfl
  have hFc := va_free (wc := [(h, .inr (0, [ps_tape, .ref rp, ps_sha, .ref sk, ps_intake, ps_view, ps_text, ps_maker, ps_recording, ps_tapeLength, ps_lastFault])), (rp, .inl (cR, 8, .inr (.inr (.inr (.inr rf))))), (rr, .inr (7, [.ref mb, rr_digest, .int (nI zz), .int (nI vv), rr_digestVersion])), (mb, .inl (cL, 8, .inr (.inl mw))), (sk, .inr (9, [sk_bytes, sk_from, sk_firstDependency, sk_firstChange, sk_dependencies, sk_hashes, sk_byHash, sk_leansOn, .ref lbA, sk_changes, sk_lines, sk_patches])), (lbA, .inl (cL, 4000, .inr (.inl S.lb)))]) hD hS hA [0, 1, 2, 3, 4, 5] rfl
  refine xc_call (xc_runV (As := [.int (nI r9), .int p1]) (rest := [.int 0, .ref o]) (C := "PatchStore") ⟨hx, hb, hml, hown, hts⟩ (m_PS_dropG l dC dI cI cB cL cZ cR hlt h rp rr mb sk lbA ps_tape ps_sha ps_intake ps_view ps_text ps_maker ps_recording ps_tapeLength ps_lastFault rr_digest rr_digestVersion sk_bytes sk_from sk_firstDependency sk_firstChange sk_dependencies sk_hashes sk_byHash sk_leansOn sk_changes sk_lines sk_patches S mw g rf zz vv r9 p1 s.heap.size hrf hr9 hg_rr hzz1) (xc_bOf 2 hts (xg_in gw_1247) (xc_Is.code (hts _ gw_1247)) rfl rfl (hts _ gw_1) (by decide +kernel) ⟨Nat.le_of_ble_eq_true rfl, Nat.le_of_ble_eq_true rfl⟩) (hts _ gw_1244) (hts _ gw_1245) (hts _ gw_1246) ⟨xw_blindx, va_recv hK hPc (ci := 0) (q0 := 0) rfl rfl, fun U hU hW => ⟨rfl, by rw [hU], by rw [hU]; exact hPc, va_K.moved hW.alike hK, hDc.weaken (fun _ _ _ _ => trivial), xg_N.warm hW hN, by rw [hU]; exact ((hTh.kept (fun a h1 h2 => hS.2.1 a h1 h2)).narrow hFc).moved hW.alike⟩⟩ rfl rfl hl.1 rfl (lv_room (Nat.le_of_ble_eq_true rfl)) d_Lw_drop_5 ⟨Nat.le_of_ble_eq_true rfl, Nat.le_of_ble_eq_true rfl⟩) hS (fun q _ h => hFc q h) hFc (fun v9 u t H1 locs ht hvm hw hB hz1 hk1 hS => ?_) (fun x9 C9 u t H1 locs ht hvm hw hex hB hz1 hk1 hS => ?_)
  · obtain ⟨r8, hr8⟩ : ∃ r8 : Int32, v9 = some (.int r8) := by
      obtain ⟨_, _, _, _, _, g1, _⟩ := hw; exact ⟨_, g1⟩
    subst hr8
    obtain ⟨hP1, hK1, hD1⟩ := hB
    rw [ht] at hP1
    obtain ⟨hP, hD⟩ := va_join (wr := [(o, .inl (cL, 1, .inr (.inl oo9)))]) (w1 := [(h, .inr (0, [ps_tape, .ref rp, ps_sha, .ref sk, ps_intake, ps_view, ps_text, ps_maker, ps_recording, ps_tapeLength, ps_lastFault])), (rp, .inl (cR, 8, .inr (.inr (.inr (.inr rf))))), (rr, .inr (7, [.ref mb, rr_digest, .int (nI u.2.1), .int (nI u.2.2), rr_digestVersion])), (mb, .inl (cL, 8, .inr (.inl u.1))), (sk, .inr (9, [sk_bytes, sk_from, sk_firstDependency, sk_firstChange, sk_dependencies, sk_hashes, sk_byHash, sk_leansOn, .ref lbA, sk_changes, sk_lines, sk_patches])), (lbA, .inl (cL, 4000, .inr (.inl S.lb)))]) hP hD [0, 1, 2, 3, 4, 5] [6] rfl rfl (by decide) (by decide) hk1 hFc hP1 hD1
    generalize H1 = H at hP hS ht ⊢
    have hP : va_P (dC, dI) classes [(o, .inl (cL, 1, .inr (.inl oo9))), (h, .inr (0, [ps_tape, .ref rp, ps_sha, .ref sk, ps_intake, ps_view, ps_text, ps_maker, ps_recording, ps_tapeLength, ps_lastFault])), (rp, .inl (cR, 8, .inr (.inr (.inr (.inr rf))))), (rr, .inr (7, [.ref mb, rr_digest, .int (nI u.2.1), .int (nI u.2.2), rr_digestVersion])), (mb, .inl (cL, 8, .inr (.inl u.1))), (sk, .inr (9, [sk_bytes, sk_from, sk_firstDependency, sk_firstChange, sk_dependencies, sk_hashes, sk_byHash, sk_leansOn, .ref lbA, sk_changes, sk_lines, sk_patches])), (lbA, .inl (cL, 4000, .inr (.inl S.lb)))] H := hP
    have hD : va_D A [(o, .inl (cL, 1, .inr (.inl oo9))), (h, .inr (0, [ps_tape, .ref rp, ps_sha, .ref sk, ps_intake, ps_view, ps_text, ps_maker, ps_recording, ps_tapeLength, ps_lastFault])), (rp, .inl (cR, 8, .inr (.inr (.inr (.inr rf))))), (rr, .inr (7, [.ref mb, rr_digest, .int (nI u.2.1), .int (nI u.2.2), rr_digestVersion])), (mb, .inl (cL, 8, .inr (.inl u.1))), (sk, .inr (9, [sk_bytes, sk_from, sk_firstDependency, sk_firstChange, sk_dependencies, sk_hashes, sk_byHash, sk_leansOn, .ref lbA, sk_changes, sk_lines, sk_patches])), (lbA, .inl (cL, 4000, .inr (.inl S.lb)))] := hD
    refine W.eq (g2 := F0 m 8 ls [.int r8, .int 0, .ref o]) rfl ?_
    refine W.widen (k := 3) (n := 18) (Nat.le_of_ble_eq_true rfl) (Nat.le_of_ble_eq_true rfl) ?_
    refine lv_i2l hx hb d_Lw_drop_8 rfl ?_
    refine va_last hx hb hK hP hD hS 0 2 rfl rfl (vp_in_nI (n := 0) (by omega) (by omega)) d_Lw_drop_9 (fun H locs hP hD hS => ?_)
    rw [show (0 : Int32).toNatClampNeg = 0 from rfl] at hP hD
    have hP : va_P (dC, dI) classes [(o, .inl (cL, 1, .inr (.inl (vp_updL oo9 0 ((r8 : Int32).toInt64))))), (h, .inr (0, [ps_tape, .ref rp, ps_sha, .ref sk, ps_intake, ps_view, ps_text, ps_maker, ps_recording, ps_tapeLength, ps_lastFault])), (rp, .inl (cR, 8, .inr (.inr (.inr (.inr rf))))), (rr, .inr (7, [.ref mb, rr_digest, .int (nI u.2.1), .int (nI u.2.2), rr_digestVersion])), (mb, .inl (cL, 8, .inr (.inl u.1))), (sk, .inr (9, [sk_bytes, sk_from, sk_firstDependency, sk_firstChange, sk_dependencies, sk_hashes, sk_byHash, sk_leansOn, .ref lbA, sk_changes, sk_lines, sk_patches])), (lbA, .inl (cL, 4000, .inr (.inl S.lb)))] H := hP
    have hD : va_D A [(o, .inl (cL, 1, .inr (.inl (vp_updL oo9 0 ((r8 : Int32).toInt64))))), (h, .inr (0, [ps_tape, .ref rp, ps_sha, .ref sk, ps_intake, ps_view, ps_text, ps_maker, ps_recording, ps_tapeLength, ps_lastFault])), (rp, .inl (cR, 8, .inr (.inr (.inr (.inr rf))))), (rr, .inr (7, [.ref mb, rr_digest, .int (nI u.2.1), .int (nI u.2.2), rr_digestVersion])), (mb, .inl (cL, 8, .inr (.inl u.1))), (sk, .inr (9, [sk_bytes, sk_from, sk_firstDependency, sk_firstChange, sk_dependencies, sk_hashes, sk_byHash, sk_leansOn, .ref lbA, sk_changes, sk_lines, sk_patches])), (lbA, .inl (cL, 4000, .inr (.inl S.lb)))] := hD
    refine lv_goto (tgt := 21) hx hb d_Lw_drop_10 (by decide) ?_
    refine lv_iconst (v := 0) hx hb d_Lw_drop_21 (by decide) ?_
    have hP := hP.sub (ws' := [(h, .inr (0, [ps_tape, .ref rp, ps_sha, .ref sk, ps_intake, ps_view, ps_text, ps_maker, ps_recording, ps_tapeLength, ps_lastFault])), (rp, .inl (cR, 8, .inr (.inr (.inr (.inr rf))))), (rr, .inr (7, [.ref mb, rr_digest, .int (nI u.2.1), .int (nI u.2.2), rr_digestVersion])), (mb, .inl (cL, 8, .inr (.inl u.1))), (sk, .inr (9, [sk_bytes, sk_from, sk_firstDependency, sk_firstChange, sk_dependencies, sk_hashes, sk_byHash, sk_leansOn, .ref lbA, sk_changes, sk_lines, sk_patches])), (lbA, .inl (cL, 4000, .inr (.inl S.lb))), (o, .inl (cL, 1, .inr (.inl (vp_updL oo9 0 ((r8 : Int32).toInt64)))))]) [1, 2, 3, 4, 5, 6, 0] rfl
    have hD := hD.sub (ws' := [(h, .inr (0, [ps_tape, .ref rp, ps_sha, .ref sk, ps_intake, ps_view, ps_text, ps_maker, ps_recording, ps_tapeLength, ps_lastFault])), (rp, .inl (cR, 8, .inr (.inr (.inr (.inr rf))))), (rr, .inr (7, [.ref mb, rr_digest, .int (nI u.2.1), .int (nI u.2.2), rr_digestVersion])), (mb, .inl (cL, 8, .inr (.inl u.1))), (sk, .inr (9, [sk_bytes, sk_from, sk_firstDependency, sk_firstChange, sk_dependencies, sk_hashes, sk_byHash, sk_leansOn, .ref lbA, sk_changes, sk_lines, sk_patches])), (lbA, .inl (cL, 4000, .inr (.inl S.lb))), (o, .inl (cL, 1, .inr (.inl (vp_updL oo9 0 ((r8 : Int32).toInt64)))))]) [1, 2, 3, 4, 5, 6, 0] (by decide) rfl
    refine W.widen (k := 3) (n := 18) (Nat.le_of_ble_eq_true rfl) (Nat.le_of_ble_eq_true rfl) ?_
    exact xc_ret (W.iret (v := 0) hx hb hr (fun t ht hW => ⟨Or.inl ⟨_, (u, vp_updL oo9 0 ((r8 : Int32).toInt64)), rfl, Or.inl ⟨r8, rfl, rfl, hw⟩, (by rw [ht]; exact hP), va_K.moved hW.alike hK, hD⟩, hS.F ht⟩) hS.2.2 d_Lw_drop_22)
  · have hC9 : C9 = "java/util/NoSuchElementException" ∨ C9 = "java/lang/IllegalStateException" := by
      rcases hw.2 with z | ⟨_, _, _, _, _, z⟩; exact Or.inl z.2; exact Or.inr z
    obtain ⟨hP1, hK1, hD1⟩ := hB
    rw [ht] at hP1
    obtain ⟨hP, hD⟩ := va_join (wr := [(o, .inl (cL, 1, .inr (.inl oo9)))]) (w1 := [(h, .inr (0, [ps_tape, .ref rp, ps_sha, .ref sk, ps_intake, ps_view, ps_text, ps_maker, ps_recording, ps_tapeLength, ps_lastFault])), (rp, .inl (cR, 8, .inr (.inr (.inr (.inr rf))))), (rr, .inr (7, [.ref mb, rr_digest, .int (nI u.2.1), .int (nI u.2.2), rr_digestVersion])), (mb, .inl (cL, 8, .inr (.inl u.1))), (sk, .inr (9, [sk_bytes, sk_from, sk_firstDependency, sk_firstChange, sk_dependencies, sk_hashes, sk_byHash, sk_leansOn, .ref lbA, sk_changes, sk_lines, sk_patches])), (lbA, .inl (cL, 4000, .inr (.inl S.lb)))]) hP hD [0, 1, 2, 3, 4, 5] [6] rfl rfl (by decide) (by decide) hk1 hFc hP1 hD1
    generalize H1 = H at hP hS ht ⊢
    have hP : va_P (dC, dI) classes [(o, .inl (cL, 1, .inr (.inl oo9))), (h, .inr (0, [ps_tape, .ref rp, ps_sha, .ref sk, ps_intake, ps_view, ps_text, ps_maker, ps_recording, ps_tapeLength, ps_lastFault])), (rp, .inl (cR, 8, .inr (.inr (.inr (.inr rf))))), (rr, .inr (7, [.ref mb, rr_digest, .int (nI u.2.1), .int (nI u.2.2), rr_digestVersion])), (mb, .inl (cL, 8, .inr (.inl u.1))), (sk, .inr (9, [sk_bytes, sk_from, sk_firstDependency, sk_firstChange, sk_dependencies, sk_hashes, sk_byHash, sk_leansOn, .ref lbA, sk_changes, sk_lines, sk_patches])), (lbA, .inl (cL, 4000, .inr (.inl S.lb)))] H := hP
    have hD : va_D A [(o, .inl (cL, 1, .inr (.inl oo9))), (h, .inr (0, [ps_tape, .ref rp, ps_sha, .ref sk, ps_intake, ps_view, ps_text, ps_maker, ps_recording, ps_tapeLength, ps_lastFault])), (rp, .inl (cR, 8, .inr (.inr (.inr (.inr rf))))), (rr, .inr (7, [.ref mb, rr_digest, .int (nI u.2.1), .int (nI u.2.2), rr_digestVersion])), (mb, .inl (cL, 8, .inr (.inl u.1))), (sk, .inr (9, [sk_bytes, sk_from, sk_firstDependency, sk_firstChange, sk_dependencies, sk_hashes, sk_byHash, sk_leansOn, .ref lbA, sk_changes, sk_lines, sk_patches])), (lbA, .inl (cL, 4000, .inr (.inl S.lb)))] := hD
    rcases hC9 with rfl | rfl
    · have hcd : cd_drop "java/util/NoSuchElementException" = 1 := by first | decide | (simp [cd_drop]; done)
      refine xc_catch (tgt := 13) hown hrows ht hvm hex ⟨⟨by decide, by decide⟩, by decide, "java/util/NoSuchElementException", hts _ gw_695, Or.inl ⟨va_Nw.use rfl (hN _ gn_706), rfl⟩⟩ ?_
      refine lv_astore (lv' := [(4, .ref x9), (0, .ref h), (1, .int (nI r9)), (2, .int p1), (3, .ref o)]) hx hb d_Lw_drop_13 hl (by decide) rfl (fun ls hl => ?_)
      refine lv_iconst (v := 1) hx hb d_Lw_drop_15 (by decide) ?_
      have hP := hP.sub (ws' := [(h, .inr (0, [ps_tape, .ref rp, ps_sha, .ref sk, ps_intake, ps_view, ps_text, ps_maker, ps_recording, ps_tapeLength, ps_lastFault])), (rp, .inl (cR, 8, .inr (.inr (.inr (.inr rf))))), (rr, .inr (7, [.ref mb, rr_digest, .int (nI u.2.1), .int (nI u.2.2), rr_digestVersion])), (mb, .inl (cL, 8, .inr (.inl u.1))), (sk, .inr (9, [sk_bytes, sk_from, sk_firstDependency, sk_firstChange, sk_dependencies, sk_hashes, sk_byHash, sk_leansOn, .ref lbA, sk_changes, sk_lines, sk_patches])), (lbA, .inl (cL, 4000, .inr (.inl S.lb))), (o, .inl (cL, 1, .inr (.inl oo9)))]) [1, 2, 3, 4, 5, 6, 0] rfl
      have hD := hD.sub (ws' := [(h, .inr (0, [ps_tape, .ref rp, ps_sha, .ref sk, ps_intake, ps_view, ps_text, ps_maker, ps_recording, ps_tapeLength, ps_lastFault])), (rp, .inl (cR, 8, .inr (.inr (.inr (.inr rf))))), (rr, .inr (7, [.ref mb, rr_digest, .int (nI u.2.1), .int (nI u.2.2), rr_digestVersion])), (mb, .inl (cL, 8, .inr (.inl u.1))), (sk, .inr (9, [sk_bytes, sk_from, sk_firstDependency, sk_firstChange, sk_dependencies, sk_hashes, sk_byHash, sk_leansOn, .ref lbA, sk_changes, sk_lines, sk_patches])), (lbA, .inl (cL, 4000, .inr (.inl S.lb))), (o, .inl (cL, 1, .inr (.inl oo9)))]) [1, 2, 3, 4, 5, 6, 0] (by decide) rfl
      refine W.widen (k := 3) (n := 18) (Nat.le_of_ble_eq_true rfl) (Nat.le_of_ble_eq_true rfl) ?_
      exact xc_ret (W.iret (v := 1) hx hb hr (fun t ht hW => ⟨Or.inl ⟨_, (u, oo9), rfl, Or.inr ⟨_, congrArg (fun z => some (Value.int z)) hcd.symm, hw⟩, (by rw [ht]; exact hP), va_K.moved hW.alike hK, hD⟩, hS.F ht⟩) hS.2.2 d_Lw_drop_16)
    · have hcd : cd_drop "java/lang/IllegalStateException" = 2 := by first | decide | (simp [cd_drop]; done)
      refine xc_catch (tgt := 17) hown hrows ht hvm hex ⟨⟨by decide, by decide⟩, by decide, "java/util/NoSuchElementException", hts _ gw_695, Or.inr ⟨hNc ("java/lang/IllegalStateException", "java/util/NoSuchElementException") (by decide), ⟨⟨by decide, by decide⟩, by decide, "java/lang/IllegalStateException", hts _ gw_593, Or.inl ⟨va_Nw.use rfl (hN _ gn_600), rfl⟩⟩⟩⟩ ?_
      refine lv_astore (lv' := [(4, .ref x9), (0, .ref h), (1, .int (nI r9)), (2, .int p1), (3, .ref o)]) hx hb d_Lw_drop_17 hl (by decide) rfl (fun ls hl => ?_)
      refine lv_iconst (v := 2) hx hb d_Lw_drop_19 (by decide) ?_
      have hP := hP.sub (ws' := [(h, .inr (0, [ps_tape, .ref rp, ps_sha, .ref sk, ps_intake, ps_view, ps_text, ps_maker, ps_recording, ps_tapeLength, ps_lastFault])), (rp, .inl (cR, 8, .inr (.inr (.inr (.inr rf))))), (rr, .inr (7, [.ref mb, rr_digest, .int (nI u.2.1), .int (nI u.2.2), rr_digestVersion])), (mb, .inl (cL, 8, .inr (.inl u.1))), (sk, .inr (9, [sk_bytes, sk_from, sk_firstDependency, sk_firstChange, sk_dependencies, sk_hashes, sk_byHash, sk_leansOn, .ref lbA, sk_changes, sk_lines, sk_patches])), (lbA, .inl (cL, 4000, .inr (.inl S.lb))), (o, .inl (cL, 1, .inr (.inl oo9)))]) [1, 2, 3, 4, 5, 6, 0] rfl
      have hD := hD.sub (ws' := [(h, .inr (0, [ps_tape, .ref rp, ps_sha, .ref sk, ps_intake, ps_view, ps_text, ps_maker, ps_recording, ps_tapeLength, ps_lastFault])), (rp, .inl (cR, 8, .inr (.inr (.inr (.inr rf))))), (rr, .inr (7, [.ref mb, rr_digest, .int (nI u.2.1), .int (nI u.2.2), rr_digestVersion])), (mb, .inl (cL, 8, .inr (.inl u.1))), (sk, .inr (9, [sk_bytes, sk_from, sk_firstDependency, sk_firstChange, sk_dependencies, sk_hashes, sk_byHash, sk_leansOn, .ref lbA, sk_changes, sk_lines, sk_patches])), (lbA, .inl (cL, 4000, .inr (.inl S.lb))), (o, .inl (cL, 1, .inr (.inl oo9)))]) [1, 2, 3, 4, 5, 6, 0] (by decide) rfl
      refine W.widen (k := 3) (n := 18) (Nat.le_of_ble_eq_true rfl) (Nat.le_of_ble_eq_true rfl) ?_
      exact xc_ret (W.iret (v := 2) hx hb hr (fun t ht hW => ⟨Or.inl ⟨_, (u, oo9), rfl, Or.inr ⟨_, congrArg (fun z => some (Value.int z)) hcd.symm, hw⟩, (by rw [ht]; exact hP), va_K.moved hW.alike hK, hD⟩, hS.F ht⟩) hS.2.2 d_Lw_drop_20)
set_option maxHeartbeats 4000000 in
set_option maxRecDepth 100000 in
/-- the law's has -/
theorem m_L_hasG (l : Launch) (dC : Nat → ClassId) (dI : Nat → Nat → Nat) (cI cB cL cZ cR : ClassId) (hlt : xl_T l) (h rp rr mb sk loA lbA : Nat) (ps_tape ps_sha ps_intake ps_view ps_text ps_maker ps_recording ps_tapeLength ps_lastFault rr_digest rr_size rr_version rr_digestVersion sk_bytes sk_from sk_firstDependency sk_firstChange sk_dependencies sk_hashes sk_byHash sk_changes sk_lines : Value) (S : Stk) (mw : Nat → Int64) (g : Nat → Nat) (rf : Nat → Option Nat) (r9 : Nat) (p1 p2 : Int32) (o : Nat) (oo9 : Nat → Int64) (sz : Nat) (I : sInv S) (hrf : ∀ k, k < 8 → rf k = some (g k)) (hr9 : r9 < 8) (hg_rr : g r9 = rr) : xc_Met l y_Lw_has ws_Lw_has ({ frames := 16, cells := 3, slots := 18, locals := 440 }) (xw_Pl dC dI [(cI, .int), (cB, .byte), (cL, .long), (cZ, .boolean), (cR, .object "PatchStore$Repository")] [.ref h, .int (nI r9), .int p1, .int p2, .ref o] [(h, .inr (0, [ps_tape, .ref rp, ps_sha, .ref sk, ps_intake, ps_view, ps_text, ps_maker, ps_recording, ps_tapeLength, ps_lastFault])), (rp, .inl (cR, 8, .inr (.inr (.inr (.inr rf))))), (rr, .inr (7, [.ref mb, rr_digest, rr_size, rr_version, rr_digestVersion])), (mb, .inl (cL, 8, .inr (.inl mw))), (sk, .inr (9, [sk_bytes, sk_from, sk_firstDependency, sk_firstChange, sk_dependencies, sk_hashes, sk_byHash, .ref loA, .ref lbA, sk_changes, sk_lines, .int (nI S.P)])), (loA, .inl (cL, 4000, .inr (.inl S.lo))), (lbA, .inl (cL, 4000, .inr (.inl S.lb))), (o, .inl (cL, 1, .inr (.inl oo9)))] sz) (xc_Q (S := (Unit) × (Nat → Int64)) (fun v (w : (Unit) × (Nat → Int64)) => (∃ r : Int32, v = some (.int 0) ∧ w.2 0 = r.toInt64 ∧ (fun (v : Option Value) (_ : Unit) => ∃ pp, pp < S.P ∧ p1 = nI pp ∧ ((p2 = nI 0 ∧ ((bt mw pp = true ∧ v = some (.int 1)) ∨ (bt mw pp = false ∧ v = some (.int 0)))) ∨ (p2 = nI 1 ∧ v = some (.int (bcs (fun i => S.lb (pp * 8 + i) &&& mw i) 8))) ∨ (p2 = nI 2 ∧ v = some (.int (bcs (fun i => S.lo (pp * 8 + i)) 8))))) (some (.int r)) w.1) ∨ (∃ C : String, v = some (.int (cd_has C)) ∧ (fun (C : String) (_ : Unit) => ((¬ ∃ n : Nat, n < S.P ∧ p1 = nI n) ∧ C = "java/util/NoSuchElementException") ∨ (¬ (¬ ∃ n : Nat, n < S.P ∧ p1 = nI n) ∧ (¬ ∃ n : Nat, n < 3 ∧ p2 = nI n) ∧ C = "java/lang/IllegalArgumentException")) C w.1)) (fun _ _ => False) (fun w t => xw_B dC dI [(cI, .int), (cB, .byte), (cL, .long), (cZ, .boolean), (cR, .object "PatchStore$Repository")] (va_A [(h, .inr (0, [ps_tape, .ref rp, ps_sha, .ref sk, ps_intake, ps_view, ps_text, ps_maker, ps_recording, ps_tapeLength, ps_lastFault])), (rp, .inl (cR, 8, .inr (.inr (.inr (.inr rf))))), (rr, .inr (7, [.ref mb, rr_digest, rr_size, rr_version, rr_digestVersion])), (mb, .inl (cL, 8, .inr (.inl mw))), (sk, .inr (9, [sk_bytes, sk_from, sk_firstDependency, sk_firstChange, sk_dependencies, sk_hashes, sk_byHash, .ref loA, .ref lbA, sk_changes, sk_lines, .int (nI S.P)])), (loA, .inl (cL, 4000, .inr (.inl S.lo))), (lbA, .inl (cL, 4000, .inr (.inl S.lb))), (o, .inl (cL, 1, .inr (.inl oo9)))] sz) [(h, .inr (0, [ps_tape, .ref rp, ps_sha, .ref sk, ps_intake, ps_view, ps_text, ps_maker, ps_recording, ps_tapeLength, ps_lastFault])), (rp, .inl (cR, 8, .inr (.inr (.inr (.inr rf))))), (rr, .inr (7, [.ref mb, rr_digest, rr_size, rr_version, rr_digestVersion])), (mb, .inl (cL, 8, .inr (.inl mw))), (sk, .inr (9, [sk_bytes, sk_from, sk_firstDependency, sk_firstChange, sk_dependencies, sk_hashes, sk_byHash, .ref loA, .ref lbA, sk_changes, sk_lines, .int (nI S.P)])), (loA, .inl (cL, 4000, .inr (.inl S.lo))), (lbA, .inl (cL, 4000, .inr (.inl S.lb))), (o, .inl (cL, 1, .inr (.inl w.2)))] t) (va_A [(h, .inr (0, [ps_tape, .ref rp, ps_sha, .ref sk, ps_intake, ps_view, ps_text, ps_maker, ps_recording, ps_tapeLength, ps_lastFault])), (rp, .inl (cR, 8, .inr (.inr (.inr (.inr rf))))), (rr, .inr (7, [.ref mb, rr_digest, rr_size, rr_version, rr_digestVersion])), (mb, .inl (cL, 8, .inr (.inl mw))), (sk, .inr (9, [sk_bytes, sk_from, sk_firstDependency, sk_firstChange, sk_dependencies, sk_hashes, sk_byHash, .ref loA, .ref lbA, sk_changes, sk_lines, .int (nI S.P)])), (loA, .inl (cL, 4000, .inr (.inl S.lo))), (lbA, .inl (cL, 4000, .inr (.inl S.lb))), (o, .inl (cL, 1, .inr (.inl oo9)))] sz)) 3 18 (va_A [(h, .inr (0, [ps_tape, .ref rp, ps_sha, .ref sk, ps_intake, ps_view, ps_text, ps_maker, ps_recording, ps_tapeLength, ps_lastFault])), (rp, .inl (cR, 8, .inr (.inr (.inr (.inr rf))))), (rr, .inr (7, [.ref mb, rr_digest, rr_size, rr_version, rr_digestVersion])), (mb, .inl (cL, 8, .inr (.inl mw))), (sk, .inr (9, [sk_bytes, sk_from, sk_firstDependency, sk_firstChange, sk_dependencies, sk_hashes, sk_byHash, .ref loA, .ref lbA, sk_changes, sk_lines, .int (nI S.P)])), (loA, .inl (cL, 4000, .inr (.inl S.lo))), (lbA, .inl (cL, 4000, .inr (.inl S.lb))), (o, .inl (cL, 1, .inr (.inl oo9)))] sz) := by
  refine xc_ofWH (cc := method_12_code) (maxL := 6) (ret := (Option.some Jvm.ClassFile.FieldType.int)) (hh := [((0 : Nat), (12 : Nat), (15 : Nat), (25 : Nat)), ((0 : Nat), (12 : Nat), (19 : Nat), (19 : Nat))]) (by decide) rfl ?_
  intro p e s m args below meth c s₁ B hml hrows hv
  obtain ⟨rfl, hsz, hP, hK, hD0, hN, hTh, hNc⟩ := hv
  have hx := B.exec
  have hb := B.bytes
  have hr := B.returns
  have hts0 := atoms_spec (ws := ws_Lw_has) B.pre
  have hts : ∀ w ∈ xg_1, w.before _ s = true := fun w h => hts0 w (List.mem_cons_of_mem _ h)
  have hown : s.vm.findClass "PatchStoreLaw" = some m.cls := findClass_of_methodNamed B.named
  have hlocks := B.notSynchronized
  subst hsz
  have hD := hD0.self (sz := s.heap.size)
  generalize hAe : va_A [(h, .inr (0, [ps_tape, .ref rp, ps_sha, .ref sk, ps_intake, ps_view, ps_text, ps_maker, ps_recording, ps_tapeLength, ps_lastFault])), (rp, .inl (cR, 8, .inr (.inr (.inr (.inr rf))))), (rr, .inr (7, [.ref mb, rr_digest, rr_size, rr_version, rr_digestVersion])), (mb, .inl (cL, 8, .inr (.inl mw))), (sk, .inr (9, [sk_bytes, sk_from, sk_firstDependency, sk_firstChange, sk_dependencies, sk_hashes, sk_byHash, .ref loA, .ref lbA, sk_changes, sk_lines, .int (nI S.P)])), (loA, .inl (cL, 4000, .inr (.inl S.lo))), (lbA, .inl (cL, 4000, .inr (.inl S.lb))), (o, .inl (cL, 1, .inr (.inl oo9)))] s.heap.size = A at hD hTh ⊢
  have hA : ∀ q : Nat, s.heap.size ≤ q → A q := fun q h => by rw [← hAe]; exact Or.inr h
  have hS : va_S A s.heap s.heap [] := va_S.rf
  have hl := lv_entry ([.ref h, .int (nI r9), .int p1, .int p2, .ref o]) (n := 6) (Nat.le_of_ble_eq_true rfl)
  rw [lg_entry_eq]
  generalize (lg_sl ([.ref h, .int (nI r9), .int p1, .int p2, .ref o]) ++ List.replicate (6 - (lg_sl ([.ref h, .int (nI r9), .int p1, .int p2, .ref o])).length) Slot.unset).toArray = ls at hl ⊢
  have hl : lv_has ls 6 [(0, .ref h), (1, .int (nI r9)), (2, .int p1), (3, .int p2), (4, .ref o)] := hl
  refine lv_aload hx hb d_Lw_has_0 (lv_at hl 4 rfl) ?_
  refine lv_iconst (v := 0) hx hb d_Lw_has_2 (by decide) ?_
  refine lv_aload_n hx hb d_Lw_has_3 rfl (lv_at hl 0 rfl) ?_
  refine lv_iload_n hx hb d_Lw_has_4 rfl (lv_at hl 1 rfl) ?_
  refine lv_iload_n hx hb d_Lw_has_5 rfl (lv_at hl 2 rfl) ?_
  refine lv_iload_n hx hb d_Lw_has_6 rfl (lv_at hl 3 rfl) ?_
  have hPc := hP.sub (ws' := [(h, .inr (0, [ps_tape, .ref rp, ps_sha, .ref sk, ps_intake, ps_view, ps_text, ps_maker, ps_recording, ps_tapeLength, ps_lastFault])), (rp, .inl (cR, 8, .inr (.inr (.inr (.inr rf))))), (rr, .inr (7, [.ref mb, rr_digest, rr_size, rr_version, rr_digestVersion])), (mb, .inl (cL, 8, .inr (.inl mw))), (sk, .inr (9, [sk_bytes, sk_from, sk_firstDependency, sk_firstChange, sk_dependencies, sk_hashes, sk_byHash, .ref loA, .ref lbA, sk_changes, sk_lines, .int (nI S.P)])), (loA, .inl (cL, 4000, .inr (.inl S.lo))), (lbA, .inl (cL, 4000, .inr (.inl S.lb)))]) [0, 1, 2, 3, 4, 5, 6] rfl
  have hDc := hD.sub (ws' := [(h, .inr (0, [ps_tape, .ref rp, ps_sha, .ref sk, ps_intake, ps_view, ps_text, ps_maker, ps_recording, ps_tapeLength, ps_lastFault])), (rp, .inl (cR, 8, .inr (.inr (.inr (.inr rf))))), (rr, .inr (7, [.ref mb, rr_digest, rr_size, rr_version, rr_digestVersion])), (mb, .inl (cL, 8, .inr (.inl mw))), (sk, .inr (9, [sk_bytes, sk_from, sk_firstDependency, sk_firstChange, sk_dependencies, sk_hashes, sk_byHash, .ref loA, .ref lbA, sk_changes, sk_lines, .int (nI S.P)])), (loA, .inl (cL, 4000, .inr (.inl S.lo))), (lbA, .inl (cL, 4000, .inr (.inl S.lb)))]) [0, 1, 2, 3, 4, 5, 6] (by decide) rfl
  have hFc := va_free (wc := [(h, .inr (0, [ps_tape, .ref rp, ps_sha, .ref sk, ps_intake, ps_view, ps_text, ps_maker, ps_recording, ps_tapeLength, ps_lastFault])), (rp, .inl (cR, 8, .inr (.inr (.inr (.inr rf))))), (rr, .inr (7, [.ref mb, rr_digest, rr_size, rr_version, rr_digestVersion])), (mb, .inl (cL, 8, .inr (.inl mw))), (sk, .inr (9, [sk_bytes, sk_from, sk_firstDependency, sk_firstChange, sk_dependencies, sk_hashes, sk_byHash, .ref loA, .ref lbA, sk_changes, sk_lines, .int (nI S.P)])), (loA, .inl (cL, 4000, .inr (.inl S.lo))), (lbA, .inl (cL, 4000, .inr (.inl S.lb)))]) hD hS hA [0, 1, 2, 3, 4, 5, 6] rfl
  refine xc_call (xc_runV (As := [.int (nI r9), .int p1, .int p2]) (rest := [.int 0, .ref o]) (C := "PatchStore") ⟨hx, hb, hml, hown, hts⟩ (m_PS_hasG l dC dI cI cB cL cZ cR hlt h rp rr mb sk loA lbA ps_tape ps_sha ps_intake ps_view ps_text ps_maker ps_recording ps_tapeLength ps_lastFault rr_digest rr_size rr_version rr_digestVersion sk_bytes sk_from sk_firstDependency sk_firstChange sk_dependencies sk_hashes sk_byHash sk_changes sk_lines S mw g rf r9 p1 p2 s.heap.size I hrf hr9 hg_rr) (xc_bOf 3 hts (xg_in gw_1262) (xc_Is.code (hts _ gw_1262)) rfl rfl (hts _ gw_1) (by decide +kernel) ⟨Nat.le_of_ble_eq_true rfl, Nat.le_of_ble_eq_true rfl⟩) (hts _ gw_1259) (hts _ gw_1260) (hts _ gw_1261) ⟨xw_blindx, va_recv hK hPc (ci := 0) (q0 := 0) rfl rfl, fun U hU hW => ⟨rfl, by rw [hU], by rw [hU]; exact hPc, va_K.moved hW.alike hK, hDc.weaken (fun _ _ _ _ => trivial), xg_N.warm hW hN, by rw [hU]; exact ((hTh.kept (fun a h1 h2 => hS.2.1 a h1 h2)).narrow hFc).moved hW.alike⟩⟩ rfl rfl hl.1 rfl (lv_room (Nat.le_of_ble_eq_true rfl)) d_Lw_has_7 ⟨Nat.le_of_ble_eq_true rfl, Nat.le_of_ble_eq_true rfl⟩) hS (fun q _ h => hFc q h) hFc (fun v9 u t H1 locs ht hvm hw hB hz1 hk1 hS => ?_) (fun x9 C9 u t H1 locs ht hvm hw hex hB hz1 hk1 hS => ?_)
  · obtain ⟨r8, hr8⟩ : ∃ r8 : Int32, v9 = some (.int r8) := by
      obtain ⟨_, _, _, z⟩ := hw; rcases z with ⟨_, z | z⟩ | z | z; exact ⟨_, z.2⟩; exact ⟨_, z.2⟩; exact ⟨_, z.2⟩; exact ⟨_, z.2⟩
    subst hr8
    obtain ⟨hP1, hK1, hD1⟩ := hB
    rw [ht] at hP1
    obtain ⟨hP, hD⟩ := va_join (wr := [(o, .inl (cL, 1, .inr (.inl oo9)))]) (w1 := [(h, .inr (0, [ps_tape, .ref rp, ps_sha, .ref sk, ps_intake, ps_view, ps_text, ps_maker, ps_recording, ps_tapeLength, ps_lastFault])), (rp, .inl (cR, 8, .inr (.inr (.inr (.inr rf))))), (rr, .inr (7, [.ref mb, rr_digest, rr_size, rr_version, rr_digestVersion])), (mb, .inl (cL, 8, .inr (.inl mw))), (sk, .inr (9, [sk_bytes, sk_from, sk_firstDependency, sk_firstChange, sk_dependencies, sk_hashes, sk_byHash, .ref loA, .ref lbA, sk_changes, sk_lines, .int (nI S.P)])), (loA, .inl (cL, 4000, .inr (.inl S.lo))), (lbA, .inl (cL, 4000, .inr (.inl S.lb)))]) hP hD [0, 1, 2, 3, 4, 5, 6] [7] rfl rfl (by decide) (by decide) hk1 hFc hP1 hD1
    generalize H1 = H at hP hS ht ⊢
    have hP : va_P (dC, dI) classes [(o, .inl (cL, 1, .inr (.inl oo9))), (h, .inr (0, [ps_tape, .ref rp, ps_sha, .ref sk, ps_intake, ps_view, ps_text, ps_maker, ps_recording, ps_tapeLength, ps_lastFault])), (rp, .inl (cR, 8, .inr (.inr (.inr (.inr rf))))), (rr, .inr (7, [.ref mb, rr_digest, rr_size, rr_version, rr_digestVersion])), (mb, .inl (cL, 8, .inr (.inl mw))), (sk, .inr (9, [sk_bytes, sk_from, sk_firstDependency, sk_firstChange, sk_dependencies, sk_hashes, sk_byHash, .ref loA, .ref lbA, sk_changes, sk_lines, .int (nI S.P)])), (loA, .inl (cL, 4000, .inr (.inl S.lo))), (lbA, .inl (cL, 4000, .inr (.inl S.lb)))] H := hP
    have hD : va_D A [(o, .inl (cL, 1, .inr (.inl oo9))), (h, .inr (0, [ps_tape, .ref rp, ps_sha, .ref sk, ps_intake, ps_view, ps_text, ps_maker, ps_recording, ps_tapeLength, ps_lastFault])), (rp, .inl (cR, 8, .inr (.inr (.inr (.inr rf))))), (rr, .inr (7, [.ref mb, rr_digest, rr_size, rr_version, rr_digestVersion])), (mb, .inl (cL, 8, .inr (.inl mw))), (sk, .inr (9, [sk_bytes, sk_from, sk_firstDependency, sk_firstChange, sk_dependencies, sk_hashes, sk_byHash, .ref loA, .ref lbA, sk_changes, sk_lines, .int (nI S.P)])), (loA, .inl (cL, 4000, .inr (.inl S.lo))), (lbA, .inl (cL, 4000, .inr (.inl S.lb)))] := hD
    refine W.eq (g2 := F0 m 10 ls [.int r8, .int 0, .ref o]) rfl ?_
    refine W.widen (k := 3) (n := 18) (Nat.le_of_ble_eq_true rfl) (Nat.le_of_ble_eq_true rfl) ?_
    refine lv_i2l hx hb d_Lw_has_10 rfl ?_
    refine va_last hx hb hK hP hD hS 0 2 rfl rfl (vp_in_nI (n := 0) (by omega) (by omega)) d_Lw_has_11 (fun H locs hP hD hS => ?_)
    rw [show (0 : Int32).toNatClampNeg = 0 from rfl] at hP hD
    have hP : va_P (dC, dI) classes [(o, .inl (cL, 1, .inr (.inl (vp_updL oo9 0 ((r8 : Int32).toInt64))))), (h, .inr (0, [ps_tape, .ref rp, ps_sha, .ref sk, ps_intake, ps_view, ps_text, ps_maker, ps_recording, ps_tapeLength, ps_lastFault])), (rp, .inl (cR, 8, .inr (.inr (.inr (.inr rf))))), (rr, .inr (7, [.ref mb, rr_digest, rr_size, rr_version, rr_digestVersion])), (mb, .inl (cL, 8, .inr (.inl mw))), (sk, .inr (9, [sk_bytes, sk_from, sk_firstDependency, sk_firstChange, sk_dependencies, sk_hashes, sk_byHash, .ref loA, .ref lbA, sk_changes, sk_lines, .int (nI S.P)])), (loA, .inl (cL, 4000, .inr (.inl S.lo))), (lbA, .inl (cL, 4000, .inr (.inl S.lb)))] H := hP
    have hD : va_D A [(o, .inl (cL, 1, .inr (.inl (vp_updL oo9 0 ((r8 : Int32).toInt64))))), (h, .inr (0, [ps_tape, .ref rp, ps_sha, .ref sk, ps_intake, ps_view, ps_text, ps_maker, ps_recording, ps_tapeLength, ps_lastFault])), (rp, .inl (cR, 8, .inr (.inr (.inr (.inr rf))))), (rr, .inr (7, [.ref mb, rr_digest, rr_size, rr_version, rr_digestVersion])), (mb, .inl (cL, 8, .inr (.inl mw))), (sk, .inr (9, [sk_bytes, sk_from, sk_firstDependency, sk_firstChange, sk_dependencies, sk_hashes, sk_byHash, .ref loA, .ref lbA, sk_changes, sk_lines, .int (nI S.P)])), (loA, .inl (cL, 4000, .inr (.inl S.lo))), (lbA, .inl (cL, 4000, .inr (.inl S.lb)))] := hD
    refine lv_goto (tgt := 23) hx hb d_Lw_has_12 (by decide) ?_
    refine lv_iconst (v := 0) hx hb d_Lw_has_23 (by decide) ?_
    have hP := hP.sub (ws' := [(h, .inr (0, [ps_tape, .ref rp, ps_sha, .ref sk, ps_intake, ps_view, ps_text, ps_maker, ps_recording, ps_tapeLength, ps_lastFault])), (rp, .inl (cR, 8, .inr (.inr (.inr (.inr rf))))), (rr, .inr (7, [.ref mb, rr_digest, rr_size, rr_version, rr_digestVersion])), (mb, .inl (cL, 8, .inr (.inl mw))), (sk, .inr (9, [sk_bytes, sk_from, sk_firstDependency, sk_firstChange, sk_dependencies, sk_hashes, sk_byHash, .ref loA, .ref lbA, sk_changes, sk_lines, .int (nI S.P)])), (loA, .inl (cL, 4000, .inr (.inl S.lo))), (lbA, .inl (cL, 4000, .inr (.inl S.lb))), (o, .inl (cL, 1, .inr (.inl (vp_updL oo9 0 ((r8 : Int32).toInt64)))))]) [1, 2, 3, 4, 5, 6, 7, 0] rfl
    have hD := hD.sub (ws' := [(h, .inr (0, [ps_tape, .ref rp, ps_sha, .ref sk, ps_intake, ps_view, ps_text, ps_maker, ps_recording, ps_tapeLength, ps_lastFault])), (rp, .inl (cR, 8, .inr (.inr (.inr (.inr rf))))), (rr, .inr (7, [.ref mb, rr_digest, rr_size, rr_version, rr_digestVersion])), (mb, .inl (cL, 8, .inr (.inl mw))), (sk, .inr (9, [sk_bytes, sk_from, sk_firstDependency, sk_firstChange, sk_dependencies, sk_hashes, sk_byHash, .ref loA, .ref lbA, sk_changes, sk_lines, .int (nI S.P)])), (loA, .inl (cL, 4000, .inr (.inl S.lo))), (lbA, .inl (cL, 4000, .inr (.inl S.lb))), (o, .inl (cL, 1, .inr (.inl (vp_updL oo9 0 ((r8 : Int32).toInt64)))))]) [1, 2, 3, 4, 5, 6, 7, 0] (by decide) rfl
    refine W.widen (k := 3) (n := 18) (Nat.le_of_ble_eq_true rfl) (Nat.le_of_ble_eq_true rfl) ?_
    exact xc_ret (W.iret (v := 0) hx hb hr (fun t ht hW => ⟨Or.inl ⟨_, (u, vp_updL oo9 0 ((r8 : Int32).toInt64)), rfl, Or.inl ⟨r8, rfl, rfl, hw⟩, (by rw [ht]; exact hP), va_K.moved hW.alike hK, hD⟩, hS.F ht⟩) hS.2.2 d_Lw_has_24)
  · have hC9 : C9 = "java/util/NoSuchElementException" ∨ C9 = "java/lang/IllegalArgumentException" := by
      rcases hw with z | z; exact Or.inl z.2; exact Or.inr z.2.2
    obtain ⟨hP1, hK1, hD1⟩ := hB
    rw [ht] at hP1
    obtain ⟨hP, hD⟩ := va_join (wr := [(o, .inl (cL, 1, .inr (.inl oo9)))]) (w1 := [(h, .inr (0, [ps_tape, .ref rp, ps_sha, .ref sk, ps_intake, ps_view, ps_text, ps_maker, ps_recording, ps_tapeLength, ps_lastFault])), (rp, .inl (cR, 8, .inr (.inr (.inr (.inr rf))))), (rr, .inr (7, [.ref mb, rr_digest, rr_size, rr_version, rr_digestVersion])), (mb, .inl (cL, 8, .inr (.inl mw))), (sk, .inr (9, [sk_bytes, sk_from, sk_firstDependency, sk_firstChange, sk_dependencies, sk_hashes, sk_byHash, .ref loA, .ref lbA, sk_changes, sk_lines, .int (nI S.P)])), (loA, .inl (cL, 4000, .inr (.inl S.lo))), (lbA, .inl (cL, 4000, .inr (.inl S.lb)))]) hP hD [0, 1, 2, 3, 4, 5, 6] [7] rfl rfl (by decide) (by decide) hk1 hFc hP1 hD1
    generalize H1 = H at hP hS ht ⊢
    have hP : va_P (dC, dI) classes [(o, .inl (cL, 1, .inr (.inl oo9))), (h, .inr (0, [ps_tape, .ref rp, ps_sha, .ref sk, ps_intake, ps_view, ps_text, ps_maker, ps_recording, ps_tapeLength, ps_lastFault])), (rp, .inl (cR, 8, .inr (.inr (.inr (.inr rf))))), (rr, .inr (7, [.ref mb, rr_digest, rr_size, rr_version, rr_digestVersion])), (mb, .inl (cL, 8, .inr (.inl mw))), (sk, .inr (9, [sk_bytes, sk_from, sk_firstDependency, sk_firstChange, sk_dependencies, sk_hashes, sk_byHash, .ref loA, .ref lbA, sk_changes, sk_lines, .int (nI S.P)])), (loA, .inl (cL, 4000, .inr (.inl S.lo))), (lbA, .inl (cL, 4000, .inr (.inl S.lb)))] H := hP
    have hD : va_D A [(o, .inl (cL, 1, .inr (.inl oo9))), (h, .inr (0, [ps_tape, .ref rp, ps_sha, .ref sk, ps_intake, ps_view, ps_text, ps_maker, ps_recording, ps_tapeLength, ps_lastFault])), (rp, .inl (cR, 8, .inr (.inr (.inr (.inr rf))))), (rr, .inr (7, [.ref mb, rr_digest, rr_size, rr_version, rr_digestVersion])), (mb, .inl (cL, 8, .inr (.inl mw))), (sk, .inr (9, [sk_bytes, sk_from, sk_firstDependency, sk_firstChange, sk_dependencies, sk_hashes, sk_byHash, .ref loA, .ref lbA, sk_changes, sk_lines, .int (nI S.P)])), (loA, .inl (cL, 4000, .inr (.inl S.lo))), (lbA, .inl (cL, 4000, .inr (.inl S.lb)))] := hD
    rcases hC9 with rfl | rfl
    · have hcd : cd_has "java/util/NoSuchElementException" = 1 := by first | decide | (simp [cd_has]; done)
      refine xc_catch (tgt := 15) hown hrows ht hvm hex ⟨⟨by decide, by decide⟩, by decide, "java/util/NoSuchElementException", hts _ gw_695, Or.inl ⟨va_Nw.use rfl (hN _ gn_706), rfl⟩⟩ ?_
      refine lv_astore (lv' := [(5, .ref x9), (0, .ref h), (1, .int (nI r9)), (2, .int p1), (3, .int p2), (4, .ref o)]) hx hb d_Lw_has_15 hl (by decide) rfl (fun ls hl => ?_)
      refine lv_iconst (v := 1) hx hb d_Lw_has_17 (by decide) ?_
      have hP := hP.sub (ws' := [(h, .inr (0, [ps_tape, .ref rp, ps_sha, .ref sk, ps_intake, ps_view, ps_text, ps_maker, ps_recording, ps_tapeLength, ps_lastFault])), (rp, .inl (cR, 8, .inr (.inr (.inr (.inr rf))))), (rr, .inr (7, [.ref mb, rr_digest, rr_size, rr_version, rr_digestVersion])), (mb, .inl (cL, 8, .inr (.inl mw))), (sk, .inr (9, [sk_bytes, sk_from, sk_firstDependency, sk_firstChange, sk_dependencies, sk_hashes, sk_byHash, .ref loA, .ref lbA, sk_changes, sk_lines, .int (nI S.P)])), (loA, .inl (cL, 4000, .inr (.inl S.lo))), (lbA, .inl (cL, 4000, .inr (.inl S.lb))), (o, .inl (cL, 1, .inr (.inl oo9)))]) [1, 2, 3, 4, 5, 6, 7, 0] rfl
      have hD := hD.sub (ws' := [(h, .inr (0, [ps_tape, .ref rp, ps_sha, .ref sk, ps_intake, ps_view, ps_text, ps_maker, ps_recording, ps_tapeLength, ps_lastFault])), (rp, .inl (cR, 8, .inr (.inr (.inr (.inr rf))))), (rr, .inr (7, [.ref mb, rr_digest, rr_size, rr_version, rr_digestVersion])), (mb, .inl (cL, 8, .inr (.inl mw))), (sk, .inr (9, [sk_bytes, sk_from, sk_firstDependency, sk_firstChange, sk_dependencies, sk_hashes, sk_byHash, .ref loA, .ref lbA, sk_changes, sk_lines, .int (nI S.P)])), (loA, .inl (cL, 4000, .inr (.inl S.lo))), (lbA, .inl (cL, 4000, .inr (.inl S.lb))), (o, .inl (cL, 1, .inr (.inl oo9)))]) [1, 2, 3, 4, 5, 6, 7, 0] (by decide) rfl
      refine W.widen (k := 3) (n := 18) (Nat.le_of_ble_eq_true rfl) (Nat.le_of_ble_eq_true rfl) ?_
      exact xc_ret (W.iret (v := 1) hx hb hr (fun t ht hW => ⟨Or.inl ⟨_, (u, oo9), rfl, Or.inr ⟨_, congrArg (fun z => some (Value.int z)) hcd.symm, hw⟩, (by rw [ht]; exact hP), va_K.moved hW.alike hK, hD⟩, hS.F ht⟩) hS.2.2 d_Lw_has_18)
    · have hcd : cd_has "java/lang/IllegalArgumentException" = 2 := by first | decide | (simp [cd_has]; done)
      refine xc_catch (tgt := 19) hown hrows ht hvm hex ⟨⟨by decide, by decide⟩, by decide, "java/util/NoSuchElementException", hts _ gw_695, Or.inr ⟨hNc ("java/lang/IllegalArgumentException", "java/util/NoSuchElementException") (by decide), ⟨⟨by decide, by decide⟩, by decide, "java/lang/IllegalArgumentException", hts _ gw_672, Or.inl ⟨va_Nw.use rfl (hN _ gn_679), rfl⟩⟩⟩⟩ ?_
      refine lv_astore (lv' := [(5, .ref x9), (0, .ref h), (1, .int (nI r9)), (2, .int p1), (3, .int p2), (4, .ref o)]) hx hb d_Lw_has_19 hl (by decide) rfl (fun ls hl => ?_)
      refine lv_iconst (v := 2) hx hb d_Lw_has_21 (by decide) ?_
      have hP := hP.sub (ws' := [(h, .inr (0, [ps_tape, .ref rp, ps_sha, .ref sk, ps_intake, ps_view, ps_text, ps_maker, ps_recording, ps_tapeLength, ps_lastFault])), (rp, .inl (cR, 8, .inr (.inr (.inr (.inr rf))))), (rr, .inr (7, [.ref mb, rr_digest, rr_size, rr_version, rr_digestVersion])), (mb, .inl (cL, 8, .inr (.inl mw))), (sk, .inr (9, [sk_bytes, sk_from, sk_firstDependency, sk_firstChange, sk_dependencies, sk_hashes, sk_byHash, .ref loA, .ref lbA, sk_changes, sk_lines, .int (nI S.P)])), (loA, .inl (cL, 4000, .inr (.inl S.lo))), (lbA, .inl (cL, 4000, .inr (.inl S.lb))), (o, .inl (cL, 1, .inr (.inl oo9)))]) [1, 2, 3, 4, 5, 6, 7, 0] rfl
      have hD := hD.sub (ws' := [(h, .inr (0, [ps_tape, .ref rp, ps_sha, .ref sk, ps_intake, ps_view, ps_text, ps_maker, ps_recording, ps_tapeLength, ps_lastFault])), (rp, .inl (cR, 8, .inr (.inr (.inr (.inr rf))))), (rr, .inr (7, [.ref mb, rr_digest, rr_size, rr_version, rr_digestVersion])), (mb, .inl (cL, 8, .inr (.inl mw))), (sk, .inr (9, [sk_bytes, sk_from, sk_firstDependency, sk_firstChange, sk_dependencies, sk_hashes, sk_byHash, .ref loA, .ref lbA, sk_changes, sk_lines, .int (nI S.P)])), (loA, .inl (cL, 4000, .inr (.inl S.lo))), (lbA, .inl (cL, 4000, .inr (.inl S.lb))), (o, .inl (cL, 1, .inr (.inl oo9)))]) [1, 2, 3, 4, 5, 6, 7, 0] (by decide) rfl
      refine W.widen (k := 3) (n := 18) (Nat.le_of_ble_eq_true rfl) (Nat.le_of_ble_eq_true rfl) ?_
      exact xc_ret (W.iret (v := 2) hx hb hr (fun t ht hW => ⟨Or.inl ⟨_, (u, oo9), rfl, Or.inr ⟨_, congrArg (fun z => some (Value.int z)) hcd.symm, hw⟩, (by rw [ht]; exact hP), va_K.moved hW.alike hK, hD⟩, hS.F ht⟩) hS.2.2 d_Lw_has_22)
set_option maxHeartbeats 4000000 in
set_option maxRecDepth 100000 in
/-- the law's hash -/
theorem m_L_hashG (l : Launch) (dC : Nat → ClassId) (dI : Nat → Nat → Nat) (cI cB cL cZ cR : ClassId) (hlt : xl_T l) (h sk hs : Nat) (ps_tape ps_repositories ps_sha ps_intake ps_view ps_text ps_maker ps_recording ps_tapeLength ps_lastFault sk_bytes sk_from sk_firstDependency sk_firstChange sk_dependencies sk_byHash sk_leansOn sk_leantBy sk_changes sk_lines : Value) (S : Stk) (Z : StkA) (p0 p1 : Int32) (o : Nat) (oo9 : Nat → Int64) (sz : Nat) (I : sInv S) : xc_Met l y_Lw_hash ws_Lw_hash ({ frames := 14, cells := 2, slots := 12, locals := 340 }) (xw_Pl dC dI [(cI, .int), (cB, .byte), (cL, .long), (cZ, .boolean), (cR, .object "PatchStore$Repository")] [.ref h, .int p0, .int p1, .ref o] [(h, .inr (0, [ps_tape, ps_repositories, ps_sha, .ref sk, ps_intake, ps_view, ps_text, ps_maker, ps_recording, ps_tapeLength, ps_lastFault])), (sk, .inr (9, [sk_bytes, sk_from, sk_firstDependency, sk_firstChange, sk_dependencies, .ref hs, sk_byHash, sk_leansOn, sk_leantBy, sk_changes, sk_lines, .int (nI S.P)])), (hs, .inl (cB, 16032, .inl Z.hs)), (o, .inl (cL, 1, .inr (.inl oo9)))] sz) (xc_Q (S := (Unit) × (Nat → Int64)) (fun v (w : (Unit) × (Nat → Int64)) => (∃ r : Int32, v = some (.int 0) ∧ w.2 0 = r.toInt64 ∧ (fun (v : Option Value) (_ : Unit) => ∃ pp ii, pp < S.P ∧ p0 = nI pp ∧ ii < 32 ∧ p1 = nI ii ∧ v = some (.int (nI (b8 (Z.hs (pp * 32 + ii)))))) (some (.int r)) w.1) ∨ (∃ C : String, v = some (.int (cd_hash C)) ∧ (fun (C : String) (_ : Unit) => ((¬ ∃ n : Nat, n < S.P ∧ p0 = nI n) ∧ C = "java/util/NoSuchElementException") ∨ (¬ (¬ ∃ n : Nat, n < S.P ∧ p0 = nI n) ∧ (¬ ∃ n : Nat, n < 32 ∧ p1 = nI n) ∧ C = "java/lang/IndexOutOfBoundsException")) C w.1)) (fun _ _ => False) (fun w t => xw_B dC dI [(cI, .int), (cB, .byte), (cL, .long), (cZ, .boolean), (cR, .object "PatchStore$Repository")] (va_A [(h, .inr (0, [ps_tape, ps_repositories, ps_sha, .ref sk, ps_intake, ps_view, ps_text, ps_maker, ps_recording, ps_tapeLength, ps_lastFault])), (sk, .inr (9, [sk_bytes, sk_from, sk_firstDependency, sk_firstChange, sk_dependencies, .ref hs, sk_byHash, sk_leansOn, sk_leantBy, sk_changes, sk_lines, .int (nI S.P)])), (hs, .inl (cB, 16032, .inl Z.hs)), (o, .inl (cL, 1, .inr (.inl oo9)))] sz) [(h, .inr (0, [ps_tape, ps_repositories, ps_sha, .ref sk, ps_intake, ps_view, ps_text, ps_maker, ps_recording, ps_tapeLength, ps_lastFault])), (sk, .inr (9, [sk_bytes, sk_from, sk_firstDependency, sk_firstChange, sk_dependencies, .ref hs, sk_byHash, sk_leansOn, sk_leantBy, sk_changes, sk_lines, .int (nI S.P)])), (hs, .inl (cB, 16032, .inl Z.hs)), (o, .inl (cL, 1, .inr (.inl w.2)))] t) (va_A [(h, .inr (0, [ps_tape, ps_repositories, ps_sha, .ref sk, ps_intake, ps_view, ps_text, ps_maker, ps_recording, ps_tapeLength, ps_lastFault])), (sk, .inr (9, [sk_bytes, sk_from, sk_firstDependency, sk_firstChange, sk_dependencies, .ref hs, sk_byHash, sk_leansOn, sk_leantBy, sk_changes, sk_lines, .int (nI S.P)])), (hs, .inl (cB, 16032, .inl Z.hs)), (o, .inl (cL, 1, .inr (.inl oo9)))] sz)) 2 12 (va_A [(h, .inr (0, [ps_tape, ps_repositories, ps_sha, .ref sk, ps_intake, ps_view, ps_text, ps_maker, ps_recording, ps_tapeLength, ps_lastFault])), (sk, .inr (9, [sk_bytes, sk_from, sk_firstDependency, sk_firstChange, sk_dependencies, .ref hs, sk_byHash, sk_leansOn, sk_leantBy, sk_changes, sk_lines, .int (nI S.P)])), (hs, .inl (cB, 16032, .inl Z.hs)), (o, .inl (cL, 1, .inr (.inl oo9)))] sz) := by
  refine xc_ofWH (cc := method_13_code) (maxL := 5) (ret := (Option.some Jvm.ClassFile.FieldType.int)) (hh := [((0 : Nat), (10 : Nat), (13 : Nat), (25 : Nat)), ((0 : Nat), (10 : Nat), (17 : Nat), (54 : Nat))]) (by decide) rfl ?_
  intro p e s m args below meth c s₁ B hml hrows hv
  obtain ⟨rfl, hsz, hP, hK, hD0, hN, hTh, hNc⟩ := hv
  have hx := B.exec
  have hb := B.bytes
  have hr := B.returns
  have hts0 := atoms_spec (ws := ws_Lw_hash) B.pre
  have hts : ∀ w ∈ xg_1, w.before _ s = true := fun w h => hts0 w (List.mem_cons_of_mem _ h)
  have hown : s.vm.findClass "PatchStoreLaw" = some m.cls := findClass_of_methodNamed B.named
  have hlocks := B.notSynchronized
  subst hsz
  have hD := hD0.self (sz := s.heap.size)
  generalize hAe : va_A [(h, .inr (0, [ps_tape, ps_repositories, ps_sha, .ref sk, ps_intake, ps_view, ps_text, ps_maker, ps_recording, ps_tapeLength, ps_lastFault])), (sk, .inr (9, [sk_bytes, sk_from, sk_firstDependency, sk_firstChange, sk_dependencies, .ref hs, sk_byHash, sk_leansOn, sk_leantBy, sk_changes, sk_lines, .int (nI S.P)])), (hs, .inl (cB, 16032, .inl Z.hs)), (o, .inl (cL, 1, .inr (.inl oo9)))] s.heap.size = A at hD hTh ⊢
  have hA : ∀ q : Nat, s.heap.size ≤ q → A q := fun q h => by rw [← hAe]; exact Or.inr h
  have hS : va_S A s.heap s.heap [] := va_S.rf
  have hl := lv_entry ([.ref h, .int p0, .int p1, .ref o]) (n := 5) (Nat.le_of_ble_eq_true rfl)
  rw [lg_entry_eq]
  generalize (lg_sl ([.ref h, .int p0, .int p1, .ref o]) ++ List.replicate (5 - (lg_sl ([.ref h, .int p0, .int p1, .ref o])).length) Slot.unset).toArray = ls at hl ⊢
  have hl : lv_has ls 5 [(0, .ref h), (1, .int p0), (2, .int p1), (3, .ref o)] := hl
  refine lv_aload_n hx hb d_Lw_hash_0 rfl (lv_at hl 3 rfl) ?_
  refine lv_iconst (v := 0) hx hb d_Lw_hash_1 (by decide) ?_
  refine lv_aload_n hx hb d_Lw_hash_2 rfl (lv_at hl 0 rfl) ?_
  refine lv_iload_n hx hb d_Lw_hash_3 rfl (lv_at hl 1 rfl) ?_
  refine lv_iload_n hx hb d_Lw_hash_4 rfl (lv_at hl 2 rfl) ?_
  have hPc := hP.sub (ws' := [(h, .inr (0, [ps_tape, ps_repositories, ps_sha, .ref sk, ps_intake, ps_view, ps_text, ps_maker, ps_recording, ps_tapeLength, ps_lastFault])), (sk, .inr (9, [sk_bytes, sk_from, sk_firstDependency, sk_firstChange, sk_dependencies, .ref hs, sk_byHash, sk_leansOn, sk_leantBy, sk_changes, sk_lines, .int (nI S.P)])), (hs, .inl (cB, 16032, .inl Z.hs))]) [0, 1, 2] rfl
  have hDc := hD.sub (ws' := [(h, .inr (0, [ps_tape, ps_repositories, ps_sha, .ref sk, ps_intake, ps_view, ps_text, ps_maker, ps_recording, ps_tapeLength, ps_lastFault])), (sk, .inr (9, [sk_bytes, sk_from, sk_firstDependency, sk_firstChange, sk_dependencies, .ref hs, sk_byHash, sk_leansOn, sk_leantBy, sk_changes, sk_lines, .int (nI S.P)])), (hs, .inl (cB, 16032, .inl Z.hs))]) [0, 1, 2] (by decide) rfl
  have hFc := va_free (wc := [(h, .inr (0, [ps_tape, ps_repositories, ps_sha, .ref sk, ps_intake, ps_view, ps_text, ps_maker, ps_recording, ps_tapeLength, ps_lastFault])), (sk, .inr (9, [sk_bytes, sk_from, sk_firstDependency, sk_firstChange, sk_dependencies, .ref hs, sk_byHash, sk_leansOn, sk_leantBy, sk_changes, sk_lines, .int (nI S.P)])), (hs, .inl (cB, 16032, .inl Z.hs))]) hD hS hA [0, 1, 2] rfl
  refine xc_call (xc_runV (As := [.int p0, .int p1]) (rest := [.int 0, .ref o]) (C := "PatchStore") ⟨hx, hb, hml, hown, hts⟩ (m_PS_hashG l dC dI cI cB cL cZ cR hlt h sk hs ps_tape ps_repositories ps_sha ps_intake ps_view ps_text ps_maker ps_recording ps_tapeLength ps_lastFault sk_bytes sk_from sk_firstDependency sk_firstChange sk_dependencies sk_byHash sk_leansOn sk_leantBy sk_changes sk_lines S Z p0 p1 s.heap.size I) (xc_bOf 2 hts (xg_in gw_1275) (xc_Is.code (hts _ gw_1275)) rfl rfl (hts _ gw_1) (by decide +kernel) ⟨Nat.le_of_ble_eq_true rfl, Nat.le_of_ble_eq_true rfl⟩) (hts _ gw_1272) (hts _ gw_1273) (hts _ gw_1274) ⟨xw_blindx, va_recv hK hPc (ci := 0) (q0 := 0) rfl rfl, fun U hU hW => ⟨rfl, by rw [hU], by rw [hU]; exact hPc, va_K.moved hW.alike hK, hDc.weaken (fun _ _ _ _ => trivial), xg_N.warm hW hN, by rw [hU]; exact ((hTh.kept (fun a h1 h2 => hS.2.1 a h1 h2)).narrow hFc).moved hW.alike⟩⟩ rfl rfl hl.1 rfl (lv_room (Nat.le_of_ble_eq_true rfl)) d_Lw_hash_5 ⟨Nat.le_of_ble_eq_true rfl, Nat.le_of_ble_eq_true rfl⟩) hS (fun q _ h => hFc q h) hFc (fun v9 u t H1 locs ht hvm hw hB hz1 hk1 hS => ?_) (fun x9 C9 u t H1 locs ht hvm hw hex hB hz1 hk1 hS => ?_)
  · obtain ⟨r8, hr8⟩ : ∃ r8 : Int32, v9 = some (.int r8) := by
      obtain ⟨_, _, _, _, _, _, z⟩ := hw; exact ⟨_, z⟩
    subst hr8
    obtain ⟨hP1, hK1, hD1⟩ := hB
    rw [ht] at hP1
    obtain ⟨hP, hD⟩ := va_join (wr := [(o, .inl (cL, 1, .inr (.inl oo9)))]) (w1 := [(h, .inr (0, [ps_tape, ps_repositories, ps_sha, .ref sk, ps_intake, ps_view, ps_text, ps_maker, ps_recording, ps_tapeLength, ps_lastFault])), (sk, .inr (9, [sk_bytes, sk_from, sk_firstDependency, sk_firstChange, sk_dependencies, .ref hs, sk_byHash, sk_leansOn, sk_leantBy, sk_changes, sk_lines, .int (nI S.P)])), (hs, .inl (cB, 16032, .inl Z.hs))]) hP hD [0, 1, 2] [3] rfl rfl (by decide) (by decide) hk1 hFc hP1 hD1
    generalize H1 = H at hP hS ht ⊢
    have hP : va_P (dC, dI) classes [(o, .inl (cL, 1, .inr (.inl oo9))), (h, .inr (0, [ps_tape, ps_repositories, ps_sha, .ref sk, ps_intake, ps_view, ps_text, ps_maker, ps_recording, ps_tapeLength, ps_lastFault])), (sk, .inr (9, [sk_bytes, sk_from, sk_firstDependency, sk_firstChange, sk_dependencies, .ref hs, sk_byHash, sk_leansOn, sk_leantBy, sk_changes, sk_lines, .int (nI S.P)])), (hs, .inl (cB, 16032, .inl Z.hs))] H := hP
    have hD : va_D A [(o, .inl (cL, 1, .inr (.inl oo9))), (h, .inr (0, [ps_tape, ps_repositories, ps_sha, .ref sk, ps_intake, ps_view, ps_text, ps_maker, ps_recording, ps_tapeLength, ps_lastFault])), (sk, .inr (9, [sk_bytes, sk_from, sk_firstDependency, sk_firstChange, sk_dependencies, .ref hs, sk_byHash, sk_leansOn, sk_leantBy, sk_changes, sk_lines, .int (nI S.P)])), (hs, .inl (cB, 16032, .inl Z.hs))] := hD
    refine W.eq (g2 := F0 m 8 ls [.int r8, .int 0, .ref o]) rfl ?_
    refine W.widen (k := 2) (n := 12) (Nat.le_of_ble_eq_true rfl) (Nat.le_of_ble_eq_true rfl) ?_
    refine lv_i2l hx hb d_Lw_hash_8 rfl ?_
    refine va_last hx hb hK hP hD hS 0 2 rfl rfl (vp_in_nI (n := 0) (by omega) (by omega)) d_Lw_hash_9 (fun H locs hP hD hS => ?_)
    rw [show (0 : Int32).toNatClampNeg = 0 from rfl] at hP hD
    have hP : va_P (dC, dI) classes [(o, .inl (cL, 1, .inr (.inl (vp_updL oo9 0 ((r8 : Int32).toInt64))))), (h, .inr (0, [ps_tape, ps_repositories, ps_sha, .ref sk, ps_intake, ps_view, ps_text, ps_maker, ps_recording, ps_tapeLength, ps_lastFault])), (sk, .inr (9, [sk_bytes, sk_from, sk_firstDependency, sk_firstChange, sk_dependencies, .ref hs, sk_byHash, sk_leansOn, sk_leantBy, sk_changes, sk_lines, .int (nI S.P)])), (hs, .inl (cB, 16032, .inl Z.hs))] H := hP
    have hD : va_D A [(o, .inl (cL, 1, .inr (.inl (vp_updL oo9 0 ((r8 : Int32).toInt64))))), (h, .inr (0, [ps_tape, ps_repositories, ps_sha, .ref sk, ps_intake, ps_view, ps_text, ps_maker, ps_recording, ps_tapeLength, ps_lastFault])), (sk, .inr (9, [sk_bytes, sk_from, sk_firstDependency, sk_firstChange, sk_dependencies, .ref hs, sk_byHash, sk_leansOn, sk_leantBy, sk_changes, sk_lines, .int (nI S.P)])), (hs, .inl (cB, 16032, .inl Z.hs))] := hD
    refine lv_goto (tgt := 21) hx hb d_Lw_hash_10 (by decide) ?_
    refine lv_iconst (v := 0) hx hb d_Lw_hash_21 (by decide) ?_
    have hP := hP.sub (ws' := [(h, .inr (0, [ps_tape, ps_repositories, ps_sha, .ref sk, ps_intake, ps_view, ps_text, ps_maker, ps_recording, ps_tapeLength, ps_lastFault])), (sk, .inr (9, [sk_bytes, sk_from, sk_firstDependency, sk_firstChange, sk_dependencies, .ref hs, sk_byHash, sk_leansOn, sk_leantBy, sk_changes, sk_lines, .int (nI S.P)])), (hs, .inl (cB, 16032, .inl Z.hs)), (o, .inl (cL, 1, .inr (.inl (vp_updL oo9 0 ((r8 : Int32).toInt64)))))]) [1, 2, 3, 0] rfl
    have hD := hD.sub (ws' := [(h, .inr (0, [ps_tape, ps_repositories, ps_sha, .ref sk, ps_intake, ps_view, ps_text, ps_maker, ps_recording, ps_tapeLength, ps_lastFault])), (sk, .inr (9, [sk_bytes, sk_from, sk_firstDependency, sk_firstChange, sk_dependencies, .ref hs, sk_byHash, sk_leansOn, sk_leantBy, sk_changes, sk_lines, .int (nI S.P)])), (hs, .inl (cB, 16032, .inl Z.hs)), (o, .inl (cL, 1, .inr (.inl (vp_updL oo9 0 ((r8 : Int32).toInt64)))))]) [1, 2, 3, 0] (by decide) rfl
    refine W.widen (k := 2) (n := 12) (Nat.le_of_ble_eq_true rfl) (Nat.le_of_ble_eq_true rfl) ?_
    exact xc_ret (W.iret (v := 0) hx hb hr (fun t ht hW => ⟨Or.inl ⟨_, (u, vp_updL oo9 0 ((r8 : Int32).toInt64)), rfl, Or.inl ⟨r8, rfl, rfl, hw⟩, (by rw [ht]; exact hP), va_K.moved hW.alike hK, hD⟩, hS.F ht⟩) hS.2.2 d_Lw_hash_22)
  · have hC9 : C9 = "java/util/NoSuchElementException" ∨ C9 = "java/lang/IndexOutOfBoundsException" := by
      rcases hw with z | z; exact Or.inl z.2; exact Or.inr z.2.2
    obtain ⟨hP1, hK1, hD1⟩ := hB
    rw [ht] at hP1
    obtain ⟨hP, hD⟩ := va_join (wr := [(o, .inl (cL, 1, .inr (.inl oo9)))]) (w1 := [(h, .inr (0, [ps_tape, ps_repositories, ps_sha, .ref sk, ps_intake, ps_view, ps_text, ps_maker, ps_recording, ps_tapeLength, ps_lastFault])), (sk, .inr (9, [sk_bytes, sk_from, sk_firstDependency, sk_firstChange, sk_dependencies, .ref hs, sk_byHash, sk_leansOn, sk_leantBy, sk_changes, sk_lines, .int (nI S.P)])), (hs, .inl (cB, 16032, .inl Z.hs))]) hP hD [0, 1, 2] [3] rfl rfl (by decide) (by decide) hk1 hFc hP1 hD1
    generalize H1 = H at hP hS ht ⊢
    have hP : va_P (dC, dI) classes [(o, .inl (cL, 1, .inr (.inl oo9))), (h, .inr (0, [ps_tape, ps_repositories, ps_sha, .ref sk, ps_intake, ps_view, ps_text, ps_maker, ps_recording, ps_tapeLength, ps_lastFault])), (sk, .inr (9, [sk_bytes, sk_from, sk_firstDependency, sk_firstChange, sk_dependencies, .ref hs, sk_byHash, sk_leansOn, sk_leantBy, sk_changes, sk_lines, .int (nI S.P)])), (hs, .inl (cB, 16032, .inl Z.hs))] H := hP
    have hD : va_D A [(o, .inl (cL, 1, .inr (.inl oo9))), (h, .inr (0, [ps_tape, ps_repositories, ps_sha, .ref sk, ps_intake, ps_view, ps_text, ps_maker, ps_recording, ps_tapeLength, ps_lastFault])), (sk, .inr (9, [sk_bytes, sk_from, sk_firstDependency, sk_firstChange, sk_dependencies, .ref hs, sk_byHash, sk_leansOn, sk_leantBy, sk_changes, sk_lines, .int (nI S.P)])), (hs, .inl (cB, 16032, .inl Z.hs))] := hD
    rcases hC9 with rfl | rfl
    · have hcd : cd_hash "java/util/NoSuchElementException" = 1 := by first | decide | (simp [cd_hash]; done)
      refine xc_catch (tgt := 13) hown hrows ht hvm hex ⟨⟨by decide, by decide⟩, by decide, "java/util/NoSuchElementException", hts _ gw_695, Or.inl ⟨va_Nw.use rfl (hN _ gn_706), rfl⟩⟩ ?_
      refine lv_astore (lv' := [(4, .ref x9), (0, .ref h), (1, .int p0), (2, .int p1), (3, .ref o)]) hx hb d_Lw_hash_13 hl (by decide) rfl (fun ls hl => ?_)
      refine lv_iconst (v := 1) hx hb d_Lw_hash_15 (by decide) ?_
      have hP := hP.sub (ws' := [(h, .inr (0, [ps_tape, ps_repositories, ps_sha, .ref sk, ps_intake, ps_view, ps_text, ps_maker, ps_recording, ps_tapeLength, ps_lastFault])), (sk, .inr (9, [sk_bytes, sk_from, sk_firstDependency, sk_firstChange, sk_dependencies, .ref hs, sk_byHash, sk_leansOn, sk_leantBy, sk_changes, sk_lines, .int (nI S.P)])), (hs, .inl (cB, 16032, .inl Z.hs)), (o, .inl (cL, 1, .inr (.inl oo9)))]) [1, 2, 3, 0] rfl
      have hD := hD.sub (ws' := [(h, .inr (0, [ps_tape, ps_repositories, ps_sha, .ref sk, ps_intake, ps_view, ps_text, ps_maker, ps_recording, ps_tapeLength, ps_lastFault])), (sk, .inr (9, [sk_bytes, sk_from, sk_firstDependency, sk_firstChange, sk_dependencies, .ref hs, sk_byHash, sk_leansOn, sk_leantBy, sk_changes, sk_lines, .int (nI S.P)])), (hs, .inl (cB, 16032, .inl Z.hs)), (o, .inl (cL, 1, .inr (.inl oo9)))]) [1, 2, 3, 0] (by decide) rfl
      refine W.widen (k := 2) (n := 12) (Nat.le_of_ble_eq_true rfl) (Nat.le_of_ble_eq_true rfl) ?_
      exact xc_ret (W.iret (v := 1) hx hb hr (fun t ht hW => ⟨Or.inl ⟨_, (u, oo9), rfl, Or.inr ⟨_, congrArg (fun z => some (Value.int z)) hcd.symm, hw⟩, (by rw [ht]; exact hP), va_K.moved hW.alike hK, hD⟩, hS.F ht⟩) hS.2.2 d_Lw_hash_16)
    · have hcd : cd_hash "java/lang/IndexOutOfBoundsException" = 2 := by first | decide | (simp [cd_hash]; done)
      refine xc_catch (tgt := 17) hown hrows ht hvm hex ⟨⟨by decide, by decide⟩, by decide, "java/util/NoSuchElementException", hts _ gw_695, Or.inr ⟨hNc ("java/lang/IndexOutOfBoundsException", "java/util/NoSuchElementException") (by decide), ⟨⟨by decide, by decide⟩, by decide, "java/lang/IndexOutOfBoundsException", hts _ gw_1271, Or.inl ⟨va_Nw.use rfl (hN _ gn_1282), rfl⟩⟩⟩⟩ ?_
      refine lv_astore (lv' := [(4, .ref x9), (0, .ref h), (1, .int p0), (2, .int p1), (3, .ref o)]) hx hb d_Lw_hash_17 hl (by decide) rfl (fun ls hl => ?_)
      refine lv_iconst (v := 2) hx hb d_Lw_hash_19 (by decide) ?_
      have hP := hP.sub (ws' := [(h, .inr (0, [ps_tape, ps_repositories, ps_sha, .ref sk, ps_intake, ps_view, ps_text, ps_maker, ps_recording, ps_tapeLength, ps_lastFault])), (sk, .inr (9, [sk_bytes, sk_from, sk_firstDependency, sk_firstChange, sk_dependencies, .ref hs, sk_byHash, sk_leansOn, sk_leantBy, sk_changes, sk_lines, .int (nI S.P)])), (hs, .inl (cB, 16032, .inl Z.hs)), (o, .inl (cL, 1, .inr (.inl oo9)))]) [1, 2, 3, 0] rfl
      have hD := hD.sub (ws' := [(h, .inr (0, [ps_tape, ps_repositories, ps_sha, .ref sk, ps_intake, ps_view, ps_text, ps_maker, ps_recording, ps_tapeLength, ps_lastFault])), (sk, .inr (9, [sk_bytes, sk_from, sk_firstDependency, sk_firstChange, sk_dependencies, .ref hs, sk_byHash, sk_leansOn, sk_leantBy, sk_changes, sk_lines, .int (nI S.P)])), (hs, .inl (cB, 16032, .inl Z.hs)), (o, .inl (cL, 1, .inr (.inl oo9)))]) [1, 2, 3, 0] (by decide) rfl
      refine W.widen (k := 2) (n := 12) (Nat.le_of_ble_eq_true rfl) (Nat.le_of_ble_eq_true rfl) ?_
      exact xc_ret (W.iret (v := 2) hx hb hr (fun t ht hW => ⟨Or.inl ⟨_, (u, oo9), rfl, Or.inr ⟨_, congrArg (fun z => some (Value.int z)) hcd.symm, hw⟩, (by rw [ht]; exact hP), va_K.moved hW.alike hK, hD⟩, hS.F ht⟩) hS.2.2 d_Lw_hash_20)
set_option maxHeartbeats 4000000 in
set_option maxRecDepth 100000 in
/-- the law's show -/
theorem m_L_showG (l : Launch) (dC : Nat → ClassId) (dI : Nat → Nat → Nat) (cI cB cL cZ cR : ClassId) (hlt : xl_T l) (h sk b_y fr tp : Nat) (ps_repositories ps_sha ps_intake ps_view ps_text ps_maker ps_recording ps_lastFault sk_firstDependency sk_firstChange sk_dependencies sk_hashes sk_byHash sk_leansOn sk_leantBy sk_changes sk_lines : Value) (S : Stk) (Z : StkA) (tf : Nat → Int32) (tn : Nat) (p0 : Int32) (o : Nat) (oo9 : Nat → Int64) (sz : Nat) (I : sInv S) (R : rep S Z) (hfb : ∀ j, j < 290000 → fits .byte (.int (S.f j)) = true) : xc_Met l y_Lw_show ws_Lw_show ({ frames := 14, cells := 2, slots := 12, locals := 340 }) (xw_Pl dC dI [(cI, .int), (cB, .byte), (cL, .long), (cZ, .boolean), (cR, .object "PatchStore$Repository")] [.ref h, .int p0, .ref o] [(h, .inr (0, [.ref tp, ps_repositories, ps_sha, .ref sk, ps_intake, ps_view, ps_text, ps_maker, ps_recording, .int (nI tn), ps_lastFault])), (sk, .inr (9, [.ref b_y, .ref fr, sk_firstDependency, sk_firstChange, sk_dependencies, sk_hashes, sk_byHash, sk_leansOn, sk_leantBy, sk_changes, sk_lines, .int (nI S.P)])), (b_y, .inl (cB, 290000, .inl S.f)), (fr, .inl (cI, 502, .inl Z.fr)), (tp, .inl (cB, 65536, .inl tf)), (o, .inl (cL, 1, .inr (.inl oo9)))] sz) (xc_Q (S := ((Nat → Int32) × Nat) × (Nat → Int64)) (fun v (w : ((Nat → Int32) × Nat) × (Nat → Int64)) => (∃ r : Int32, v = some (.int 0) ∧ w.2 0 = r.toInt64 ∧ (fun (v : Option Value) (u : (Nat → Int32) × Nat) => ∃ pp, pp < S.P ∧ p0 = nI pp ∧ (S.FR (pp + 1) - S.FR pp) ≤ 65536 ∧ v = some (.int (nI (S.FR (pp + 1) - S.FR pp))) ∧ u = (va_cpy S.f tf (S.FR pp) 0 (S.FR (pp + 1) - S.FR pp), (S.FR (pp + 1) - S.FR pp))) (some (.int r)) w.1) ∨ (∃ C : String, v = some (.int (cd_show C)) ∧ (fun (C : String) (u : (Nat → Int32) × Nat) => u = (tf, tn) ∧ (((¬ ∃ n : Nat, n < S.P ∧ p0 = nI n) ∧ C = "java/util/NoSuchElementException") ∨ ∃ pp, pp < S.P ∧ p0 = nI pp ∧ 65536 < (S.FR (pp + 1) - S.FR pp) ∧ C = "java/lang/UnsupportedOperationException")) C w.1)) (fun _ _ => False) (fun w t => xw_B dC dI [(cI, .int), (cB, .byte), (cL, .long), (cZ, .boolean), (cR, .object "PatchStore$Repository")] (va_A [(h, .inr (0, [.ref tp, ps_repositories, ps_sha, .ref sk, ps_intake, ps_view, ps_text, ps_maker, ps_recording, .int (nI tn), ps_lastFault])), (sk, .inr (9, [.ref b_y, .ref fr, sk_firstDependency, sk_firstChange, sk_dependencies, sk_hashes, sk_byHash, sk_leansOn, sk_leantBy, sk_changes, sk_lines, .int (nI S.P)])), (b_y, .inl (cB, 290000, .inl S.f)), (fr, .inl (cI, 502, .inl Z.fr)), (tp, .inl (cB, 65536, .inl tf)), (o, .inl (cL, 1, .inr (.inl oo9)))] sz) [(h, .inr (0, [.ref tp, ps_repositories, ps_sha, .ref sk, ps_intake, ps_view, ps_text, ps_maker, ps_recording, .int (nI w.1.2), ps_lastFault])), (sk, .inr (9, [.ref b_y, .ref fr, sk_firstDependency, sk_firstChange, sk_dependencies, sk_hashes, sk_byHash, sk_leansOn, sk_leantBy, sk_changes, sk_lines, .int (nI S.P)])), (b_y, .inl (cB, 290000, .inl S.f)), (fr, .inl (cI, 502, .inl Z.fr)), (tp, .inl (cB, 65536, .inl w.1.1)), (o, .inl (cL, 1, .inr (.inl w.2)))] t) (va_A [(h, .inr (0, [.ref tp, ps_repositories, ps_sha, .ref sk, ps_intake, ps_view, ps_text, ps_maker, ps_recording, .int (nI tn), ps_lastFault])), (sk, .inr (9, [.ref b_y, .ref fr, sk_firstDependency, sk_firstChange, sk_dependencies, sk_hashes, sk_byHash, sk_leansOn, sk_leantBy, sk_changes, sk_lines, .int (nI S.P)])), (b_y, .inl (cB, 290000, .inl S.f)), (fr, .inl (cI, 502, .inl Z.fr)), (tp, .inl (cB, 65536, .inl tf)), (o, .inl (cL, 1, .inr (.inl oo9)))] sz)) 2 12 (va_A [(h, .inr (0, [.ref tp, ps_repositories, ps_sha, .ref sk, ps_intake, ps_view, ps_text, ps_maker, ps_recording, .int (nI tn), ps_lastFault])), (sk, .inr (9, [.ref b_y, .ref fr, sk_firstDependency, sk_firstChange, sk_dependencies, sk_hashes, sk_byHash, sk_leansOn, sk_leantBy, sk_changes, sk_lines, .int (nI S.P)])), (b_y, .inl (cB, 290000, .inl S.f)), (fr, .inl (cI, 502, .inl Z.fr)), (tp, .inl (cB, 65536, .inl tf)), (o, .inl (cL, 1, .inr (.inl oo9)))] sz) := by
  refine xc_ofWH (cc := method_9_code) (maxL := 4) (ret := (Option.some Jvm.ClassFile.FieldType.int)) (hh := [((0 : Nat), (9 : Nat), (12 : Nat), (25 : Nat)), ((0 : Nat), (9 : Nat), (15 : Nat), (33 : Nat))]) (by decide) rfl ?_
  intro p e s m args below meth c s₁ B hml hrows hv
  obtain ⟨rfl, hsz, hP, hK, hD0, hN, hTh, hNc⟩ := hv
  have hx := B.exec
  have hb := B.bytes
  have hr := B.returns
  have hts0 := atoms_spec (ws := ws_Lw_show) B.pre
  have hts : ∀ w ∈ xg_1, w.before _ s = true := fun w h => hts0 w (List.mem_cons_of_mem _ h)
  have hown : s.vm.findClass "PatchStoreLaw" = some m.cls := findClass_of_methodNamed B.named
  have hlocks := B.notSynchronized
  subst hsz
  have hD := hD0.self (sz := s.heap.size)
  generalize hAe : va_A [(h, .inr (0, [.ref tp, ps_repositories, ps_sha, .ref sk, ps_intake, ps_view, ps_text, ps_maker, ps_recording, .int (nI tn), ps_lastFault])), (sk, .inr (9, [.ref b_y, .ref fr, sk_firstDependency, sk_firstChange, sk_dependencies, sk_hashes, sk_byHash, sk_leansOn, sk_leantBy, sk_changes, sk_lines, .int (nI S.P)])), (b_y, .inl (cB, 290000, .inl S.f)), (fr, .inl (cI, 502, .inl Z.fr)), (tp, .inl (cB, 65536, .inl tf)), (o, .inl (cL, 1, .inr (.inl oo9)))] s.heap.size = A at hD hTh ⊢
  have hA : ∀ q : Nat, s.heap.size ≤ q → A q := fun q h => by rw [← hAe]; exact Or.inr h
  have hS : va_S A s.heap s.heap [] := va_S.rf
  have hl := lv_entry ([.ref h, .int p0, .ref o]) (n := 4) (Nat.le_of_ble_eq_true rfl)
  rw [lg_entry_eq]
  generalize (lg_sl ([.ref h, .int p0, .ref o]) ++ List.replicate (4 - (lg_sl ([.ref h, .int p0, .ref o])).length) Slot.unset).toArray = ls at hl ⊢
  have hl : lv_has ls 4 [(0, .ref h), (1, .int p0), (2, .ref o)] := hl
  refine lv_aload_n hx hb d_Lw_show_0 rfl (lv_at hl 2 rfl) ?_
  refine lv_iconst (v := 0) hx hb d_Lw_show_1 (by decide) ?_
  refine lv_aload_n hx hb d_Lw_show_2 rfl (lv_at hl 0 rfl) ?_
  refine lv_iload_n hx hb d_Lw_show_3 rfl (lv_at hl 1 rfl) ?_
  have hPc := hP.sub (ws' := [(h, .inr (0, [.ref tp, ps_repositories, ps_sha, .ref sk, ps_intake, ps_view, ps_text, ps_maker, ps_recording, .int (nI tn), ps_lastFault])), (sk, .inr (9, [.ref b_y, .ref fr, sk_firstDependency, sk_firstChange, sk_dependencies, sk_hashes, sk_byHash, sk_leansOn, sk_leantBy, sk_changes, sk_lines, .int (nI S.P)])), (b_y, .inl (cB, 290000, .inl S.f)), (fr, .inl (cI, 502, .inl Z.fr)), (tp, .inl (cB, 65536, .inl tf))]) [0, 1, 2, 3, 4] rfl
  have hDc := hD.sub (ws' := [(h, .inr (0, [.ref tp, ps_repositories, ps_sha, .ref sk, ps_intake, ps_view, ps_text, ps_maker, ps_recording, .int (nI tn), ps_lastFault])), (sk, .inr (9, [.ref b_y, .ref fr, sk_firstDependency, sk_firstChange, sk_dependencies, sk_hashes, sk_byHash, sk_leansOn, sk_leantBy, sk_changes, sk_lines, .int (nI S.P)])), (b_y, .inl (cB, 290000, .inl S.f)), (fr, .inl (cI, 502, .inl Z.fr)), (tp, .inl (cB, 65536, .inl tf))]) [0, 1, 2, 3, 4] (by decide) rfl
  have hFc := va_free (wc := [(h, .inr (0, [.ref tp, ps_repositories, ps_sha, .ref sk, ps_intake, ps_view, ps_text, ps_maker, ps_recording, .int (nI tn), ps_lastFault])), (sk, .inr (9, [.ref b_y, .ref fr, sk_firstDependency, sk_firstChange, sk_dependencies, sk_hashes, sk_byHash, sk_leansOn, sk_leantBy, sk_changes, sk_lines, .int (nI S.P)])), (b_y, .inl (cB, 290000, .inl S.f)), (fr, .inl (cI, 502, .inl Z.fr)), (tp, .inl (cB, 65536, .inl tf))]) hD hS hA [0, 1, 2, 3, 4] rfl
  refine xc_call (xc_runV (As := [.int p0]) (rest := [.int 0, .ref o]) (C := "PatchStore") ⟨hx, hb, hml, hown, hts⟩ (m_PS_showG l dC dI cI cB cL cZ cR hlt h sk b_y fr tp ps_repositories ps_sha ps_intake ps_view ps_text ps_maker ps_recording ps_lastFault sk_firstDependency sk_firstChange sk_dependencies sk_hashes sk_byHash sk_leansOn sk_leantBy sk_changes sk_lines S Z tf tn p0 s.heap.size I R hfb) (xc_bOf 1 hts (xg_in gw_1217) (xc_Is.code (hts _ gw_1217)) rfl rfl (hts _ gw_1) (by decide +kernel) ⟨Nat.le_of_ble_eq_true rfl, Nat.le_of_ble_eq_true rfl⟩) (hts _ gw_1214) (hts _ gw_1215) (hts _ gw_1216) ⟨xw_blindx, va_recv hK hPc (ci := 0) (q0 := 0) rfl rfl, fun U hU hW => ⟨rfl, by rw [hU], by rw [hU]; exact hPc, va_K.moved hW.alike hK, hDc.weaken (fun _ _ _ _ => trivial), xg_N.warm hW hN, by rw [hU]; exact ((hTh.kept (fun a h1 h2 => hS.2.1 a h1 h2)).narrow hFc).moved hW.alike⟩⟩ rfl rfl hl.1 rfl (lv_room (Nat.le_of_ble_eq_true rfl)) d_Lw_show_4 ⟨Nat.le_of_ble_eq_true rfl, Nat.le_of_ble_eq_true rfl⟩) hS (fun q _ h => hFc q h) hFc (fun v9 u t H1 locs ht hvm hw hB hz1 hk1 hS => ?_) (fun x9 C9 u t H1 locs ht hvm hw hex hB hz1 hk1 hS => ?_)
  · obtain ⟨r8, hr8⟩ : ∃ r8 : Int32, v9 = some (.int r8) := by
      obtain ⟨_, _, _, _, z, _⟩ := hw; exact ⟨_, z⟩
    subst hr8
    obtain ⟨hP1, hK1, hD1⟩ := hB
    rw [ht] at hP1
    obtain ⟨hP, hD⟩ := va_join (wr := [(o, .inl (cL, 1, .inr (.inl oo9)))]) (w1 := [(h, .inr (0, [.ref tp, ps_repositories, ps_sha, .ref sk, ps_intake, ps_view, ps_text, ps_maker, ps_recording, .int (nI u.2), ps_lastFault])), (sk, .inr (9, [.ref b_y, .ref fr, sk_firstDependency, sk_firstChange, sk_dependencies, sk_hashes, sk_byHash, sk_leansOn, sk_leantBy, sk_changes, sk_lines, .int (nI S.P)])), (b_y, .inl (cB, 290000, .inl S.f)), (fr, .inl (cI, 502, .inl Z.fr)), (tp, .inl (cB, 65536, .inl u.1))]) hP hD [0, 1, 2, 3, 4] [5] rfl rfl (by decide) (by decide) hk1 hFc hP1 hD1
    generalize H1 = H at hP hS ht ⊢
    have hP : va_P (dC, dI) classes [(o, .inl (cL, 1, .inr (.inl oo9))), (h, .inr (0, [.ref tp, ps_repositories, ps_sha, .ref sk, ps_intake, ps_view, ps_text, ps_maker, ps_recording, .int (nI u.2), ps_lastFault])), (sk, .inr (9, [.ref b_y, .ref fr, sk_firstDependency, sk_firstChange, sk_dependencies, sk_hashes, sk_byHash, sk_leansOn, sk_leantBy, sk_changes, sk_lines, .int (nI S.P)])), (b_y, .inl (cB, 290000, .inl S.f)), (fr, .inl (cI, 502, .inl Z.fr)), (tp, .inl (cB, 65536, .inl u.1))] H := hP
    have hD : va_D A [(o, .inl (cL, 1, .inr (.inl oo9))), (h, .inr (0, [.ref tp, ps_repositories, ps_sha, .ref sk, ps_intake, ps_view, ps_text, ps_maker, ps_recording, .int (nI u.2), ps_lastFault])), (sk, .inr (9, [.ref b_y, .ref fr, sk_firstDependency, sk_firstChange, sk_dependencies, sk_hashes, sk_byHash, sk_leansOn, sk_leantBy, sk_changes, sk_lines, .int (nI S.P)])), (b_y, .inl (cB, 290000, .inl S.f)), (fr, .inl (cI, 502, .inl Z.fr)), (tp, .inl (cB, 65536, .inl u.1))] := hD
    refine W.eq (g2 := F0 m 7 ls [.int r8, .int 0, .ref o]) rfl ?_
    refine W.widen (k := 2) (n := 12) (Nat.le_of_ble_eq_true rfl) (Nat.le_of_ble_eq_true rfl) ?_
    refine lv_i2l hx hb d_Lw_show_7 rfl ?_
    refine va_last hx hb hK hP hD hS 0 2 rfl rfl (vp_in_nI (n := 0) (by omega) (by omega)) d_Lw_show_8 (fun H locs hP hD hS => ?_)
    rw [show (0 : Int32).toNatClampNeg = 0 from rfl] at hP hD
    have hP : va_P (dC, dI) classes [(o, .inl (cL, 1, .inr (.inl (vp_updL oo9 0 ((r8 : Int32).toInt64))))), (h, .inr (0, [.ref tp, ps_repositories, ps_sha, .ref sk, ps_intake, ps_view, ps_text, ps_maker, ps_recording, .int (nI u.2), ps_lastFault])), (sk, .inr (9, [.ref b_y, .ref fr, sk_firstDependency, sk_firstChange, sk_dependencies, sk_hashes, sk_byHash, sk_leansOn, sk_leantBy, sk_changes, sk_lines, .int (nI S.P)])), (b_y, .inl (cB, 290000, .inl S.f)), (fr, .inl (cI, 502, .inl Z.fr)), (tp, .inl (cB, 65536, .inl u.1))] H := hP
    have hD : va_D A [(o, .inl (cL, 1, .inr (.inl (vp_updL oo9 0 ((r8 : Int32).toInt64))))), (h, .inr (0, [.ref tp, ps_repositories, ps_sha, .ref sk, ps_intake, ps_view, ps_text, ps_maker, ps_recording, .int (nI u.2), ps_lastFault])), (sk, .inr (9, [.ref b_y, .ref fr, sk_firstDependency, sk_firstChange, sk_dependencies, sk_hashes, sk_byHash, sk_leansOn, sk_leantBy, sk_changes, sk_lines, .int (nI S.P)])), (b_y, .inl (cB, 290000, .inl S.f)), (fr, .inl (cI, 502, .inl Z.fr)), (tp, .inl (cB, 65536, .inl u.1))] := hD
    refine lv_goto (tgt := 18) hx hb d_Lw_show_9 (by decide) ?_
    refine lv_iconst (v := 0) hx hb d_Lw_show_18 (by decide) ?_
    have hP := hP.sub (ws' := [(h, .inr (0, [.ref tp, ps_repositories, ps_sha, .ref sk, ps_intake, ps_view, ps_text, ps_maker, ps_recording, .int (nI u.2), ps_lastFault])), (sk, .inr (9, [.ref b_y, .ref fr, sk_firstDependency, sk_firstChange, sk_dependencies, sk_hashes, sk_byHash, sk_leansOn, sk_leantBy, sk_changes, sk_lines, .int (nI S.P)])), (b_y, .inl (cB, 290000, .inl S.f)), (fr, .inl (cI, 502, .inl Z.fr)), (tp, .inl (cB, 65536, .inl u.1)), (o, .inl (cL, 1, .inr (.inl (vp_updL oo9 0 ((r8 : Int32).toInt64)))))]) [1, 2, 3, 4, 5, 0] rfl
    have hD := hD.sub (ws' := [(h, .inr (0, [.ref tp, ps_repositories, ps_sha, .ref sk, ps_intake, ps_view, ps_text, ps_maker, ps_recording, .int (nI u.2), ps_lastFault])), (sk, .inr (9, [.ref b_y, .ref fr, sk_firstDependency, sk_firstChange, sk_dependencies, sk_hashes, sk_byHash, sk_leansOn, sk_leantBy, sk_changes, sk_lines, .int (nI S.P)])), (b_y, .inl (cB, 290000, .inl S.f)), (fr, .inl (cI, 502, .inl Z.fr)), (tp, .inl (cB, 65536, .inl u.1)), (o, .inl (cL, 1, .inr (.inl (vp_updL oo9 0 ((r8 : Int32).toInt64)))))]) [1, 2, 3, 4, 5, 0] (by decide) rfl
    refine W.widen (k := 2) (n := 12) (Nat.le_of_ble_eq_true rfl) (Nat.le_of_ble_eq_true rfl) ?_
    exact xc_ret (W.iret (v := 0) hx hb hr (fun t ht hW => ⟨Or.inl ⟨_, (u, vp_updL oo9 0 ((r8 : Int32).toInt64)), rfl, Or.inl ⟨r8, rfl, rfl, hw⟩, (by rw [ht]; exact hP), va_K.moved hW.alike hK, hD⟩, hS.F ht⟩) hS.2.2 d_Lw_show_19)
  · have hC9 : C9 = "java/util/NoSuchElementException" ∨ C9 = "java/lang/UnsupportedOperationException" := by
      rcases hw.2 with z | ⟨_, _, _, _, z⟩; exact Or.inl z.2; exact Or.inr z
    obtain ⟨hP1, hK1, hD1⟩ := hB
    rw [ht] at hP1
    obtain ⟨hP, hD⟩ := va_join (wr := [(o, .inl (cL, 1, .inr (.inl oo9)))]) (w1 := [(h, .inr (0, [.ref tp, ps_repositories, ps_sha, .ref sk, ps_intake, ps_view, ps_text, ps_maker, ps_recording, .int (nI u.2), ps_lastFault])), (sk, .inr (9, [.ref b_y, .ref fr, sk_firstDependency, sk_firstChange, sk_dependencies, sk_hashes, sk_byHash, sk_leansOn, sk_leantBy, sk_changes, sk_lines, .int (nI S.P)])), (b_y, .inl (cB, 290000, .inl S.f)), (fr, .inl (cI, 502, .inl Z.fr)), (tp, .inl (cB, 65536, .inl u.1))]) hP hD [0, 1, 2, 3, 4] [5] rfl rfl (by decide) (by decide) hk1 hFc hP1 hD1
    generalize H1 = H at hP hS ht ⊢
    have hP : va_P (dC, dI) classes [(o, .inl (cL, 1, .inr (.inl oo9))), (h, .inr (0, [.ref tp, ps_repositories, ps_sha, .ref sk, ps_intake, ps_view, ps_text, ps_maker, ps_recording, .int (nI u.2), ps_lastFault])), (sk, .inr (9, [.ref b_y, .ref fr, sk_firstDependency, sk_firstChange, sk_dependencies, sk_hashes, sk_byHash, sk_leansOn, sk_leantBy, sk_changes, sk_lines, .int (nI S.P)])), (b_y, .inl (cB, 290000, .inl S.f)), (fr, .inl (cI, 502, .inl Z.fr)), (tp, .inl (cB, 65536, .inl u.1))] H := hP
    have hD : va_D A [(o, .inl (cL, 1, .inr (.inl oo9))), (h, .inr (0, [.ref tp, ps_repositories, ps_sha, .ref sk, ps_intake, ps_view, ps_text, ps_maker, ps_recording, .int (nI u.2), ps_lastFault])), (sk, .inr (9, [.ref b_y, .ref fr, sk_firstDependency, sk_firstChange, sk_dependencies, sk_hashes, sk_byHash, sk_leansOn, sk_leantBy, sk_changes, sk_lines, .int (nI S.P)])), (b_y, .inl (cB, 290000, .inl S.f)), (fr, .inl (cI, 502, .inl Z.fr)), (tp, .inl (cB, 65536, .inl u.1))] := hD
    rcases hC9 with rfl | rfl
    · have hcd : cd_show "java/util/NoSuchElementException" = 1 := by first | decide | (simp [cd_show]; done)
      refine xc_catch (tgt := 12) hown hrows ht hvm hex ⟨⟨by decide, by decide⟩, by decide, "java/util/NoSuchElementException", hts _ gw_695, Or.inl ⟨va_Nw.use rfl (hN _ gn_706), rfl⟩⟩ ?_
      refine lv_astore_n (lv' := [(3, .ref x9), (0, .ref h), (1, .int p0), (2, .ref o)]) hx hb d_Lw_show_12 rfl hl (by decide) rfl (fun ls hl => ?_)
      refine lv_iconst (v := 1) hx hb d_Lw_show_13 (by decide) ?_
      have hP := hP.sub (ws' := [(h, .inr (0, [.ref tp, ps_repositories, ps_sha, .ref sk, ps_intake, ps_view, ps_text, ps_maker, ps_recording, .int (nI u.2), ps_lastFault])), (sk, .inr (9, [.ref b_y, .ref fr, sk_firstDependency, sk_firstChange, sk_dependencies, sk_hashes, sk_byHash, sk_leansOn, sk_leantBy, sk_changes, sk_lines, .int (nI S.P)])), (b_y, .inl (cB, 290000, .inl S.f)), (fr, .inl (cI, 502, .inl Z.fr)), (tp, .inl (cB, 65536, .inl u.1)), (o, .inl (cL, 1, .inr (.inl oo9)))]) [1, 2, 3, 4, 5, 0] rfl
      have hD := hD.sub (ws' := [(h, .inr (0, [.ref tp, ps_repositories, ps_sha, .ref sk, ps_intake, ps_view, ps_text, ps_maker, ps_recording, .int (nI u.2), ps_lastFault])), (sk, .inr (9, [.ref b_y, .ref fr, sk_firstDependency, sk_firstChange, sk_dependencies, sk_hashes, sk_byHash, sk_leansOn, sk_leantBy, sk_changes, sk_lines, .int (nI S.P)])), (b_y, .inl (cB, 290000, .inl S.f)), (fr, .inl (cI, 502, .inl Z.fr)), (tp, .inl (cB, 65536, .inl u.1)), (o, .inl (cL, 1, .inr (.inl oo9)))]) [1, 2, 3, 4, 5, 0] (by decide) rfl
      refine W.widen (k := 2) (n := 12) (Nat.le_of_ble_eq_true rfl) (Nat.le_of_ble_eq_true rfl) ?_
      exact xc_ret (W.iret (v := 1) hx hb hr (fun t ht hW => ⟨Or.inl ⟨_, (u, oo9), rfl, Or.inr ⟨_, congrArg (fun z => some (Value.int z)) hcd.symm, hw⟩, (by rw [ht]; exact hP), va_K.moved hW.alike hK, hD⟩, hS.F ht⟩) hS.2.2 d_Lw_show_14)
    · have hcd : cd_show "java/lang/UnsupportedOperationException" = 2 := by first | decide | (simp [cd_show]; done)
      refine xc_catch (tgt := 15) hown hrows ht hvm hex ⟨⟨by decide, by decide⟩, by decide, "java/util/NoSuchElementException", hts _ gw_695, Or.inr ⟨hNc ("java/lang/UnsupportedOperationException", "java/util/NoSuchElementException") (by decide), ⟨⟨by decide, by decide⟩, by decide, "java/lang/UnsupportedOperationException", hts _ gw_1035, Or.inl ⟨va_Nw.use rfl (hN _ gn_1116), rfl⟩⟩⟩⟩ ?_
      refine lv_astore_n (lv' := [(3, .ref x9), (0, .ref h), (1, .int p0), (2, .ref o)]) hx hb d_Lw_show_15 rfl hl (by decide) rfl (fun ls hl => ?_)
      refine lv_iconst (v := 2) hx hb d_Lw_show_16 (by decide) ?_
      have hP := hP.sub (ws' := [(h, .inr (0, [.ref tp, ps_repositories, ps_sha, .ref sk, ps_intake, ps_view, ps_text, ps_maker, ps_recording, .int (nI u.2), ps_lastFault])), (sk, .inr (9, [.ref b_y, .ref fr, sk_firstDependency, sk_firstChange, sk_dependencies, sk_hashes, sk_byHash, sk_leansOn, sk_leantBy, sk_changes, sk_lines, .int (nI S.P)])), (b_y, .inl (cB, 290000, .inl S.f)), (fr, .inl (cI, 502, .inl Z.fr)), (tp, .inl (cB, 65536, .inl u.1)), (o, .inl (cL, 1, .inr (.inl oo9)))]) [1, 2, 3, 4, 5, 0] rfl
      have hD := hD.sub (ws' := [(h, .inr (0, [.ref tp, ps_repositories, ps_sha, .ref sk, ps_intake, ps_view, ps_text, ps_maker, ps_recording, .int (nI u.2), ps_lastFault])), (sk, .inr (9, [.ref b_y, .ref fr, sk_firstDependency, sk_firstChange, sk_dependencies, sk_hashes, sk_byHash, sk_leansOn, sk_leantBy, sk_changes, sk_lines, .int (nI S.P)])), (b_y, .inl (cB, 290000, .inl S.f)), (fr, .inl (cI, 502, .inl Z.fr)), (tp, .inl (cB, 65536, .inl u.1)), (o, .inl (cL, 1, .inr (.inl oo9)))]) [1, 2, 3, 4, 5, 0] (by decide) rfl
      refine W.widen (k := 2) (n := 12) (Nat.le_of_ble_eq_true rfl) (Nat.le_of_ble_eq_true rfl) ?_
      exact xc_ret (W.iret (v := 2) hx hb hr (fun t ht hW => ⟨Or.inl ⟨_, (u, oo9), rfl, Or.inr ⟨_, congrArg (fun z => some (Value.int z)) hcd.symm, hw⟩, (by rw [ht]; exact hP), va_K.moved hW.alike hK, hD⟩, hS.F ht⟩) hS.2.2 d_Lw_show_17)
set_option maxHeartbeats 4000000 in
set_option maxRecDepth 100000 in
/-- the law's state -/
theorem m_L_stateG (l : Launch) (dC : Nat → ClassId) (dI : Nat → Nat → Nat) (cI cB cL cZ cR : ClassId) (hlt : xl_T l) (h rp rr mb sk bh hs sh sm wd bl dgA : Nat) (ps_tape ps_intake ps_view ps_text ps_maker ps_recording ps_tapeLength ps_lastFault rr_size sk_bytes sk_from sk_firstDependency sk_firstChange sk_dependencies sk_leansOn sk_leantBy sk_changes sk_lines fl0 tk0 : Value) (S : Stk) (mw : Nat → Int64) (bhf hsf f0 w0 b0 g0 : Nat → Int32) (g : Nat → Nat) (rf : Nat → Option Nat) (dv : Int32) (rv r9 : Nat) (p1 : Int32) (o : Nat) (oo9 : Nat → Int64) (sz : Nat) (I : sInv S) (hbh : ∀ i, i < S.P → bhf i = nI (S.BH i)) (hgh : ∀ j, j < 16032 → vp_nar .byte (hsf j) = hsf j) (hdY : dv = nI rv → ∀ j, j < 32 → g0 j = sh_outb (dg (catH (fun p i => hsf (p * 32 + i)) (mbL S mw S.P)) 0 (32 * (mbL S mw S.P).length)) j) (hrf : ∀ k, k < 8 → rf k = some (g k)) (hr9 : r9 < 8) (hg_rr : g r9 = rr) : xc_Met l y_Lw_state ws_Lw_state ({ frames := 16, cells := 3, slots := 18, locals := 460 }) (xw_Pl dC dI [(cI, .int), (cB, .byte), (cL, .long), (cZ, .boolean), (cR, .object "PatchStore$Repository")] [.ref h, .int (nI r9), .int p1, .ref o] [(h, .inr (0, [ps_tape, .ref rp, .ref sh, .ref sk, ps_intake, ps_view, ps_text, ps_maker, ps_recording, ps_tapeLength, ps_lastFault])), (rp, .inl (cR, 8, .inr (.inr (.inr (.inr rf))))), (rr, .inr (7, [.ref mb, .ref dgA, rr_size, .int (nI rv), .int dv])), (mb, .inl (cL, 8, .inr (.inl mw))), (sk, .inr (9, [sk_bytes, sk_from, sk_firstDependency, sk_firstChange, sk_dependencies, .ref hs, .ref bh, sk_leansOn, sk_leantBy, sk_changes, sk_lines, .int (nI S.P)])), (bh, .inl (cI, 500, .inl bhf)), (hs, .inl (cB, 16032, .inl hsf)), (sh, .inr (8, [.ref sm, .ref wd, .ref bl, fl0, tk0])), (sm, .inl (cI, 8, .inl f0)), (wd, .inl (cI, 64, .inl w0)), (bl, .inl (cB, 64, .inl b0)), (dgA, .inl (cB, 32, .inl g0)), (o, .inl (cL, 1, .inr (.inl oo9)))] sz) (xc_Q (S := (((Nat → Int32) × (Nat → Int32) × (Nat → Int32) × Value × Value × (Nat → Int32)) × Int32) × (Nat → Int64)) (fun v (w : (((Nat → Int32) × (Nat → Int32) × (Nat → Int32) × Value × Value × (Nat → Int32)) × Int32) × (Nat → Int64)) => (∃ r : Int32, v = some (.int 0) ∧ w.2 0 = r.toInt64 ∧ (fun (v : Option Value) (u : ((Nat → Int32) × (Nat → Int32) × (Nat → Int32) × Value × Value × (Nat → Int32)) × Int32) => ∃ ii, ii < 32 ∧ p1 = nI ii ∧ v = some (.int (nI (b8 (sh_outb (dg (catH (fun p i => hsf (p * 32 + i)) (mbL S mw S.P)) 0 (32 * (mbL S mw S.P).length)) ii)))) ∧ u.2 = nI rv ∧ ∀ j, j < 32 → u.1.2.2.2.2.2 j = sh_outb (dg (catH (fun p i => hsf (p * 32 + i)) (mbL S mw S.P)) 0 (32 * (mbL S mw S.P).length)) j) (some (.int r)) w.1) ∨ (∃ C : String, v = some (.int (cd_state C)) ∧ (fun (C : String) (u : ((Nat → Int32) × (Nat → Int32) × (Nat → Int32) × Value × Value × (Nat → Int32)) × Int32) => u = ((f0, w0, b0, fl0, tk0, g0), dv) ∧ (¬ ∃ n : Nat, n < 32 ∧ p1 = nI n) ∧ C = "java/lang/IndexOutOfBoundsException") C w.1)) (fun _ _ => False) (fun w t => xw_B dC dI [(cI, .int), (cB, .byte), (cL, .long), (cZ, .boolean), (cR, .object "PatchStore$Repository")] (va_A [(h, .inr (0, [ps_tape, .ref rp, .ref sh, .ref sk, ps_intake, ps_view, ps_text, ps_maker, ps_recording, ps_tapeLength, ps_lastFault])), (rp, .inl (cR, 8, .inr (.inr (.inr (.inr rf))))), (rr, .inr (7, [.ref mb, .ref dgA, rr_size, .int (nI rv), .int dv])), (mb, .inl (cL, 8, .inr (.inl mw))), (sk, .inr (9, [sk_bytes, sk_from, sk_firstDependency, sk_firstChange, sk_dependencies, .ref hs, .ref bh, sk_leansOn, sk_leantBy, sk_changes, sk_lines, .int (nI S.P)])), (bh, .inl (cI, 500, .inl bhf)), (hs, .inl (cB, 16032, .inl hsf)), (sh, .inr (8, [.ref sm, .ref wd, .ref bl, fl0, tk0])), (sm, .inl (cI, 8, .inl f0)), (wd, .inl (cI, 64, .inl w0)), (bl, .inl (cB, 64, .inl b0)), (dgA, .inl (cB, 32, .inl g0)), (o, .inl (cL, 1, .inr (.inl oo9)))] sz) [(h, .inr (0, [ps_tape, .ref rp, .ref sh, .ref sk, ps_intake, ps_view, ps_text, ps_maker, ps_recording, ps_tapeLength, ps_lastFault])), (rp, .inl (cR, 8, .inr (.inr (.inr (.inr rf))))), (rr, .inr (7, [.ref mb, .ref dgA, rr_size, .int (nI rv), .int w.1.2])), (mb, .inl (cL, 8, .inr (.inl mw))), (sk, .inr (9, [sk_bytes, sk_from, sk_firstDependency, sk_firstChange, sk_dependencies, .ref hs, .ref bh, sk_leansOn, sk_leantBy, sk_changes, sk_lines, .int (nI S.P)])), (bh, .inl (cI, 500, .inl bhf)), (hs, .inl (cB, 16032, .inl hsf)), (sh, .inr (8, [.ref sm, .ref wd, .ref bl, w.1.1.2.2.2.1, w.1.1.2.2.2.2.1])), (sm, .inl (cI, 8, .inl w.1.1.1)), (wd, .inl (cI, 64, .inl w.1.1.2.1)), (bl, .inl (cB, 64, .inl w.1.1.2.2.1)), (dgA, .inl (cB, 32, .inl w.1.1.2.2.2.2.2)), (o, .inl (cL, 1, .inr (.inl w.2)))] t) (va_A [(h, .inr (0, [ps_tape, .ref rp, .ref sh, .ref sk, ps_intake, ps_view, ps_text, ps_maker, ps_recording, ps_tapeLength, ps_lastFault])), (rp, .inl (cR, 8, .inr (.inr (.inr (.inr rf))))), (rr, .inr (7, [.ref mb, .ref dgA, rr_size, .int (nI rv), .int dv])), (mb, .inl (cL, 8, .inr (.inl mw))), (sk, .inr (9, [sk_bytes, sk_from, sk_firstDependency, sk_firstChange, sk_dependencies, .ref hs, .ref bh, sk_leansOn, sk_leantBy, sk_changes, sk_lines, .int (nI S.P)])), (bh, .inl (cI, 500, .inl bhf)), (hs, .inl (cB, 16032, .inl hsf)), (sh, .inr (8, [.ref sm, .ref wd, .ref bl, fl0, tk0])), (sm, .inl (cI, 8, .inl f0)), (wd, .inl (cI, 64, .inl w0)), (bl, .inl (cB, 64, .inl b0)), (dgA, .inl (cB, 32, .inl g0)), (o, .inl (cL, 1, .inr (.inl oo9)))] sz)) 3 18 (va_A [(h, .inr (0, [ps_tape, .ref rp, .ref sh, .ref sk, ps_intake, ps_view, ps_text, ps_maker, ps_recording, ps_tapeLength, ps_lastFault])), (rp, .inl (cR, 8, .inr (.inr (.inr (.inr rf))))), (rr, .inr (7, [.ref mb, .ref dgA, rr_size, .int (nI rv), .int dv])), (mb, .inl (cL, 8, .inr (.inl mw))), (sk, .inr (9, [sk_bytes, sk_from, sk_firstDependency, sk_firstChange, sk_dependencies, .ref hs, .ref bh, sk_leansOn, sk_leantBy, sk_changes, sk_lines, .int (nI S.P)])), (bh, .inl (cI, 500, .inl bhf)), (hs, .inl (cB, 16032, .inl hsf)), (sh, .inr (8, [.ref sm, .ref wd, .ref bl, fl0, tk0])), (sm, .inl (cI, 8, .inl f0)), (wd, .inl (cI, 64, .inl w0)), (bl, .inl (cB, 64, .inl b0)), (dgA, .inl (cB, 32, .inl g0)), (o, .inl (cL, 1, .inr (.inl oo9)))] sz) := by
  refine xc_ofWH (cc := method_14_code) (maxL := 5) (ret := (Option.some Jvm.ClassFile.FieldType.int)) (hh := [((0 : Nat), (10 : Nat), (13 : Nat), (25 : Nat)), ((0 : Nat), (10 : Nat), (17 : Nat), (54 : Nat))]) (by decide) rfl ?_
  intro p e s m args below meth c s₁ B hml hrows hv
  obtain ⟨rfl, hsz, hP, hK, hD0, hN, hTh, hNc⟩ := hv
  have hx := B.exec
  have hb := B.bytes
  have hr := B.returns
  have hts0 := atoms_spec (ws := ws_Lw_state) B.pre
  have hts : ∀ w ∈ xg_1, w.before _ s = true := fun w h => hts0 w (List.mem_cons_of_mem _ h)
  have hown : s.vm.findClass "PatchStoreLaw" = some m.cls := findClass_of_methodNamed B.named
  have hlocks := B.notSynchronized
  subst hsz
  have hD := hD0.self (sz := s.heap.size)
  generalize hAe : va_A [(h, .inr (0, [ps_tape, .ref rp, .ref sh, .ref sk, ps_intake, ps_view, ps_text, ps_maker, ps_recording, ps_tapeLength, ps_lastFault])), (rp, .inl (cR, 8, .inr (.inr (.inr (.inr rf))))), (rr, .inr (7, [.ref mb, .ref dgA, rr_size, .int (nI rv), .int dv])), (mb, .inl (cL, 8, .inr (.inl mw))), (sk, .inr (9, [sk_bytes, sk_from, sk_firstDependency, sk_firstChange, sk_dependencies, .ref hs, .ref bh, sk_leansOn, sk_leantBy, sk_changes, sk_lines, .int (nI S.P)])), (bh, .inl (cI, 500, .inl bhf)), (hs, .inl (cB, 16032, .inl hsf)), (sh, .inr (8, [.ref sm, .ref wd, .ref bl, fl0, tk0])), (sm, .inl (cI, 8, .inl f0)), (wd, .inl (cI, 64, .inl w0)), (bl, .inl (cB, 64, .inl b0)), (dgA, .inl (cB, 32, .inl g0)), (o, .inl (cL, 1, .inr (.inl oo9)))] s.heap.size = A at hD hTh ⊢
  have hA : ∀ q : Nat, s.heap.size ≤ q → A q := fun q h => by rw [← hAe]; exact Or.inr h
  have hS : va_S A s.heap s.heap [] := va_S.rf
  have hl := lv_entry ([.ref h, .int (nI r9), .int p1, .ref o]) (n := 5) (Nat.le_of_ble_eq_true rfl)
  rw [lg_entry_eq]
  generalize (lg_sl ([.ref h, .int (nI r9), .int p1, .ref o]) ++ List.replicate (5 - (lg_sl ([.ref h, .int (nI r9), .int p1, .ref o])).length) Slot.unset).toArray = ls at hl ⊢
  have hl : lv_has ls 5 [(0, .ref h), (1, .int (nI r9)), (2, .int p1), (3, .ref o)] := hl
  refine lv_aload_n hx hb d_Lw_state_0 rfl (lv_at hl 3 rfl) ?_
  refine lv_iconst (v := 0) hx hb d_Lw_state_1 (by decide) ?_
  refine lv_aload_n hx hb d_Lw_state_2 rfl (lv_at hl 0 rfl) ?_
  refine lv_iload_n hx hb d_Lw_state_3 rfl (lv_at hl 1 rfl) ?_
  refine lv_iload_n hx hb d_Lw_state_4 rfl (lv_at hl 2 rfl) ?_
  have hPc := hP.sub (ws' := [(h, .inr (0, [ps_tape, .ref rp, .ref sh, .ref sk, ps_intake, ps_view, ps_text, ps_maker, ps_recording, ps_tapeLength, ps_lastFault])), (rp, .inl (cR, 8, .inr (.inr (.inr (.inr rf))))), (rr, .inr (7, [.ref mb, .ref dgA, rr_size, .int (nI rv), .int dv])), (mb, .inl (cL, 8, .inr (.inl mw))), (sk, .inr (9, [sk_bytes, sk_from, sk_firstDependency, sk_firstChange, sk_dependencies, .ref hs, .ref bh, sk_leansOn, sk_leantBy, sk_changes, sk_lines, .int (nI S.P)])), (bh, .inl (cI, 500, .inl bhf)), (hs, .inl (cB, 16032, .inl hsf)), (sh, .inr (8, [.ref sm, .ref wd, .ref bl, fl0, tk0])), (sm, .inl (cI, 8, .inl f0)), (wd, .inl (cI, 64, .inl w0)), (bl, .inl (cB, 64, .inl b0)), (dgA, .inl (cB, 32, .inl g0))]) [0, 1, 2, 3, 4, 5, 6, 7, 8, 9, 10, 11] rfl
  have hDc := hD.sub (ws' := [(h, .inr (0, [ps_tape, .ref rp, .ref sh, .ref sk, ps_intake, ps_view, ps_text, ps_maker, ps_recording, ps_tapeLength, ps_lastFault])), (rp, .inl (cR, 8, .inr (.inr (.inr (.inr rf))))), (rr, .inr (7, [.ref mb, .ref dgA, rr_size, .int (nI rv), .int dv])), (mb, .inl (cL, 8, .inr (.inl mw))), (sk, .inr (9, [sk_bytes, sk_from, sk_firstDependency, sk_firstChange, sk_dependencies, .ref hs, .ref bh, sk_leansOn, sk_leantBy, sk_changes, sk_lines, .int (nI S.P)])), (bh, .inl (cI, 500, .inl bhf)), (hs, .inl (cB, 16032, .inl hsf)), (sh, .inr (8, [.ref sm, .ref wd, .ref bl, fl0, tk0])), (sm, .inl (cI, 8, .inl f0)), (wd, .inl (cI, 64, .inl w0)), (bl, .inl (cB, 64, .inl b0)), (dgA, .inl (cB, 32, .inl g0))]) [0, 1, 2, 3, 4, 5, 6, 7, 8, 9, 10, 11] (by decide) rfl
  have hFc := va_free (wc := [(h, .inr (0, [ps_tape, .ref rp, .ref sh, .ref sk, ps_intake, ps_view, ps_text, ps_maker, ps_recording, ps_tapeLength, ps_lastFault])), (rp, .inl (cR, 8, .inr (.inr (.inr (.inr rf))))), (rr, .inr (7, [.ref mb, .ref dgA, rr_size, .int (nI rv), .int dv])), (mb, .inl (cL, 8, .inr (.inl mw))), (sk, .inr (9, [sk_bytes, sk_from, sk_firstDependency, sk_firstChange, sk_dependencies, .ref hs, .ref bh, sk_leansOn, sk_leantBy, sk_changes, sk_lines, .int (nI S.P)])), (bh, .inl (cI, 500, .inl bhf)), (hs, .inl (cB, 16032, .inl hsf)), (sh, .inr (8, [.ref sm, .ref wd, .ref bl, fl0, tk0])), (sm, .inl (cI, 8, .inl f0)), (wd, .inl (cI, 64, .inl w0)), (bl, .inl (cB, 64, .inl b0)), (dgA, .inl (cB, 32, .inl g0))]) hD hS hA [0, 1, 2, 3, 4, 5, 6, 7, 8, 9, 10, 11] rfl
  refine xc_call (xc_runV (As := [.int (nI r9), .int p1]) (rest := [.int 0, .ref o]) (C := "PatchStore") ⟨hx, hb, hml, hown, hts⟩ (m_PS_stateG l dC dI cI cB cL cZ cR hlt h rp rr mb sk bh hs sh sm wd bl dgA ps_tape ps_intake ps_view ps_text ps_maker ps_recording ps_tapeLength ps_lastFault rr_size sk_bytes sk_from sk_firstDependency sk_firstChange sk_dependencies sk_leansOn sk_leantBy sk_changes sk_lines fl0 tk0 S mw bhf hsf f0 w0 b0 g0 g rf dv rv r9 p1 s.heap.size I hbh hgh hdY hrf hr9 hg_rr) (xc_bOf 2 hts (xg_in gw_1301) (xc_Is.code (hts _ gw_1301)) rfl rfl (hts _ gw_1) (by decide +kernel) ⟨Nat.le_of_ble_eq_true rfl, Nat.le_of_ble_eq_true rfl⟩) (hts _ gw_1298) (hts _ gw_1299) (hts _ gw_1300) ⟨xw_blindx, va_recv hK hPc (ci := 0) (q0 := 0) rfl rfl, fun U hU hW => ⟨rfl, by rw [hU], by rw [hU]; exact hPc, va_K.moved hW.alike hK, hDc.weaken (fun _ _ _ _ => trivial), xg_N.warm hW hN, by rw [hU]; exact ((hTh.kept (fun a h1 h2 => hS.2.1 a h1 h2)).narrow hFc).moved hW.alike⟩⟩ rfl rfl hl.1 rfl (lv_room (Nat.le_of_ble_eq_true rfl)) d_Lw_state_5 ⟨Nat.le_of_ble_eq_true rfl, Nat.le_of_ble_eq_true rfl⟩) hS (fun q _ h => hFc q h) hFc (fun v9 u t H1 locs ht hvm hw hB hz1 hk1 hS => ?_) (fun x9 C9 u t H1 locs ht hvm hw hex hB hz1 hk1 hS => ?_)
  · obtain ⟨r8, hr8⟩ : ∃ r8 : Int32, v9 = some (.int r8) := by
      obtain ⟨_, _, _, z, _⟩ := hw; exact ⟨_, z⟩
    subst hr8
    obtain ⟨hP1, hK1, hD1⟩ := hB
    rw [ht] at hP1
    obtain ⟨hP, hD⟩ := va_join (wr := [(o, .inl (cL, 1, .inr (.inl oo9)))]) (w1 := [(h, .inr (0, [ps_tape, .ref rp, .ref sh, .ref sk, ps_intake, ps_view, ps_text, ps_maker, ps_recording, ps_tapeLength, ps_lastFault])), (rp, .inl (cR, 8, .inr (.inr (.inr (.inr rf))))), (rr, .inr (7, [.ref mb, .ref dgA, rr_size, .int (nI rv), .int u.2])), (mb, .inl (cL, 8, .inr (.inl mw))), (sk, .inr (9, [sk_bytes, sk_from, sk_firstDependency, sk_firstChange, sk_dependencies, .ref hs, .ref bh, sk_leansOn, sk_leantBy, sk_changes, sk_lines, .int (nI S.P)])), (bh, .inl (cI, 500, .inl bhf)), (hs, .inl (cB, 16032, .inl hsf)), (sh, .inr (8, [.ref sm, .ref wd, .ref bl, u.1.2.2.2.1, u.1.2.2.2.2.1])), (sm, .inl (cI, 8, .inl u.1.1)), (wd, .inl (cI, 64, .inl u.1.2.1)), (bl, .inl (cB, 64, .inl u.1.2.2.1)), (dgA, .inl (cB, 32, .inl u.1.2.2.2.2.2))]) hP hD [0, 1, 2, 3, 4, 5, 6, 7, 8, 9, 10, 11] [12] rfl rfl (by decide) (by decide) hk1 hFc hP1 hD1
    generalize H1 = H at hP hS ht ⊢
    have hP : va_P (dC, dI) classes [(o, .inl (cL, 1, .inr (.inl oo9))), (h, .inr (0, [ps_tape, .ref rp, .ref sh, .ref sk, ps_intake, ps_view, ps_text, ps_maker, ps_recording, ps_tapeLength, ps_lastFault])), (rp, .inl (cR, 8, .inr (.inr (.inr (.inr rf))))), (rr, .inr (7, [.ref mb, .ref dgA, rr_size, .int (nI rv), .int u.2])), (mb, .inl (cL, 8, .inr (.inl mw))), (sk, .inr (9, [sk_bytes, sk_from, sk_firstDependency, sk_firstChange, sk_dependencies, .ref hs, .ref bh, sk_leansOn, sk_leantBy, sk_changes, sk_lines, .int (nI S.P)])), (bh, .inl (cI, 500, .inl bhf)), (hs, .inl (cB, 16032, .inl hsf)), (sh, .inr (8, [.ref sm, .ref wd, .ref bl, u.1.2.2.2.1, u.1.2.2.2.2.1])), (sm, .inl (cI, 8, .inl u.1.1)), (wd, .inl (cI, 64, .inl u.1.2.1)), (bl, .inl (cB, 64, .inl u.1.2.2.1)), (dgA, .inl (cB, 32, .inl u.1.2.2.2.2.2))] H := hP
    have hD : va_D A [(o, .inl (cL, 1, .inr (.inl oo9))), (h, .inr (0, [ps_tape, .ref rp, .ref sh, .ref sk, ps_intake, ps_view, ps_text, ps_maker, ps_recording, ps_tapeLength, ps_lastFault])), (rp, .inl (cR, 8, .inr (.inr (.inr (.inr rf))))), (rr, .inr (7, [.ref mb, .ref dgA, rr_size, .int (nI rv), .int u.2])), (mb, .inl (cL, 8, .inr (.inl mw))), (sk, .inr (9, [sk_bytes, sk_from, sk_firstDependency, sk_firstChange, sk_dependencies, .ref hs, .ref bh, sk_leansOn, sk_leantBy, sk_changes, sk_lines, .int (nI S.P)])), (bh, .inl (cI, 500, .inl bhf)), (hs, .inl (cB, 16032, .inl hsf)), (sh, .inr (8, [.ref sm, .ref wd, .ref bl, u.1.2.2.2.1, u.1.2.2.2.2.1])), (sm, .inl (cI, 8, .inl u.1.1)), (wd, .inl (cI, 64, .inl u.1.2.1)), (bl, .inl (cB, 64, .inl u.1.2.2.1)), (dgA, .inl (cB, 32, .inl u.1.2.2.2.2.2))] := hD
    refine W.eq (g2 := F0 m 8 ls [.int r8, .int 0, .ref o]) rfl ?_
    refine W.widen (k := 3) (n := 18) (Nat.le_of_ble_eq_true rfl) (Nat.le_of_ble_eq_true rfl) ?_
    refine lv_i2l hx hb d_Lw_state_8 rfl ?_
    refine va_last hx hb hK hP hD hS 0 2 rfl rfl (vp_in_nI (n := 0) (by omega) (by omega)) d_Lw_state_9 (fun H locs hP hD hS => ?_)
    rw [show (0 : Int32).toNatClampNeg = 0 from rfl] at hP hD
    have hP : va_P (dC, dI) classes [(o, .inl (cL, 1, .inr (.inl (vp_updL oo9 0 ((r8 : Int32).toInt64))))), (h, .inr (0, [ps_tape, .ref rp, .ref sh, .ref sk, ps_intake, ps_view, ps_text, ps_maker, ps_recording, ps_tapeLength, ps_lastFault])), (rp, .inl (cR, 8, .inr (.inr (.inr (.inr rf))))), (rr, .inr (7, [.ref mb, .ref dgA, rr_size, .int (nI rv), .int u.2])), (mb, .inl (cL, 8, .inr (.inl mw))), (sk, .inr (9, [sk_bytes, sk_from, sk_firstDependency, sk_firstChange, sk_dependencies, .ref hs, .ref bh, sk_leansOn, sk_leantBy, sk_changes, sk_lines, .int (nI S.P)])), (bh, .inl (cI, 500, .inl bhf)), (hs, .inl (cB, 16032, .inl hsf)), (sh, .inr (8, [.ref sm, .ref wd, .ref bl, u.1.2.2.2.1, u.1.2.2.2.2.1])), (sm, .inl (cI, 8, .inl u.1.1)), (wd, .inl (cI, 64, .inl u.1.2.1)), (bl, .inl (cB, 64, .inl u.1.2.2.1)), (dgA, .inl (cB, 32, .inl u.1.2.2.2.2.2))] H := hP
    have hD : va_D A [(o, .inl (cL, 1, .inr (.inl (vp_updL oo9 0 ((r8 : Int32).toInt64))))), (h, .inr (0, [ps_tape, .ref rp, .ref sh, .ref sk, ps_intake, ps_view, ps_text, ps_maker, ps_recording, ps_tapeLength, ps_lastFault])), (rp, .inl (cR, 8, .inr (.inr (.inr (.inr rf))))), (rr, .inr (7, [.ref mb, .ref dgA, rr_size, .int (nI rv), .int u.2])), (mb, .inl (cL, 8, .inr (.inl mw))), (sk, .inr (9, [sk_bytes, sk_from, sk_firstDependency, sk_firstChange, sk_dependencies, .ref hs, .ref bh, sk_leansOn, sk_leantBy, sk_changes, sk_lines, .int (nI S.P)])), (bh, .inl (cI, 500, .inl bhf)), (hs, .inl (cB, 16032, .inl hsf)), (sh, .inr (8, [.ref sm, .ref wd, .ref bl, u.1.2.2.2.1, u.1.2.2.2.2.1])), (sm, .inl (cI, 8, .inl u.1.1)), (wd, .inl (cI, 64, .inl u.1.2.1)), (bl, .inl (cB, 64, .inl u.1.2.2.1)), (dgA, .inl (cB, 32, .inl u.1.2.2.2.2.2))] := hD
    refine lv_goto (tgt := 21) hx hb d_Lw_state_10 (by decide) ?_
    refine lv_iconst (v := 0) hx hb d_Lw_state_21 (by decide) ?_
    have hP := hP.sub (ws' := [(h, .inr (0, [ps_tape, .ref rp, .ref sh, .ref sk, ps_intake, ps_view, ps_text, ps_maker, ps_recording, ps_tapeLength, ps_lastFault])), (rp, .inl (cR, 8, .inr (.inr (.inr (.inr rf))))), (rr, .inr (7, [.ref mb, .ref dgA, rr_size, .int (nI rv), .int u.2])), (mb, .inl (cL, 8, .inr (.inl mw))), (sk, .inr (9, [sk_bytes, sk_from, sk_firstDependency, sk_firstChange, sk_dependencies, .ref hs, .ref bh, sk_leansOn, sk_leantBy, sk_changes, sk_lines, .int (nI S.P)])), (bh, .inl (cI, 500, .inl bhf)), (hs, .inl (cB, 16032, .inl hsf)), (sh, .inr (8, [.ref sm, .ref wd, .ref bl, u.1.2.2.2.1, u.1.2.2.2.2.1])), (sm, .inl (cI, 8, .inl u.1.1)), (wd, .inl (cI, 64, .inl u.1.2.1)), (bl, .inl (cB, 64, .inl u.1.2.2.1)), (dgA, .inl (cB, 32, .inl u.1.2.2.2.2.2)), (o, .inl (cL, 1, .inr (.inl (vp_updL oo9 0 ((r8 : Int32).toInt64)))))]) [1, 2, 3, 4, 5, 6, 7, 8, 9, 10, 11, 12, 0] rfl
    have hD := hD.sub (ws' := [(h, .inr (0, [ps_tape, .ref rp, .ref sh, .ref sk, ps_intake, ps_view, ps_text, ps_maker, ps_recording, ps_tapeLength, ps_lastFault])), (rp, .inl (cR, 8, .inr (.inr (.inr (.inr rf))))), (rr, .inr (7, [.ref mb, .ref dgA, rr_size, .int (nI rv), .int u.2])), (mb, .inl (cL, 8, .inr (.inl mw))), (sk, .inr (9, [sk_bytes, sk_from, sk_firstDependency, sk_firstChange, sk_dependencies, .ref hs, .ref bh, sk_leansOn, sk_leantBy, sk_changes, sk_lines, .int (nI S.P)])), (bh, .inl (cI, 500, .inl bhf)), (hs, .inl (cB, 16032, .inl hsf)), (sh, .inr (8, [.ref sm, .ref wd, .ref bl, u.1.2.2.2.1, u.1.2.2.2.2.1])), (sm, .inl (cI, 8, .inl u.1.1)), (wd, .inl (cI, 64, .inl u.1.2.1)), (bl, .inl (cB, 64, .inl u.1.2.2.1)), (dgA, .inl (cB, 32, .inl u.1.2.2.2.2.2)), (o, .inl (cL, 1, .inr (.inl (vp_updL oo9 0 ((r8 : Int32).toInt64)))))]) [1, 2, 3, 4, 5, 6, 7, 8, 9, 10, 11, 12, 0] (by decide) rfl
    refine W.widen (k := 3) (n := 18) (Nat.le_of_ble_eq_true rfl) (Nat.le_of_ble_eq_true rfl) ?_
    exact xc_ret (W.iret (v := 0) hx hb hr (fun t ht hW => ⟨Or.inl ⟨_, (u, vp_updL oo9 0 ((r8 : Int32).toInt64)), rfl, Or.inl ⟨r8, rfl, rfl, hw⟩, (by rw [ht]; exact hP), va_K.moved hW.alike hK, hD⟩, hS.F ht⟩) hS.2.2 d_Lw_state_22)
  · have hC9 : C9 = "java/lang/IndexOutOfBoundsException" := by
      exact hw.2.2
    obtain ⟨hP1, hK1, hD1⟩ := hB
    rw [ht] at hP1
    obtain ⟨hP, hD⟩ := va_join (wr := [(o, .inl (cL, 1, .inr (.inl oo9)))]) (w1 := [(h, .inr (0, [ps_tape, .ref rp, .ref sh, .ref sk, ps_intake, ps_view, ps_text, ps_maker, ps_recording, ps_tapeLength, ps_lastFault])), (rp, .inl (cR, 8, .inr (.inr (.inr (.inr rf))))), (rr, .inr (7, [.ref mb, .ref dgA, rr_size, .int (nI rv), .int u.2])), (mb, .inl (cL, 8, .inr (.inl mw))), (sk, .inr (9, [sk_bytes, sk_from, sk_firstDependency, sk_firstChange, sk_dependencies, .ref hs, .ref bh, sk_leansOn, sk_leantBy, sk_changes, sk_lines, .int (nI S.P)])), (bh, .inl (cI, 500, .inl bhf)), (hs, .inl (cB, 16032, .inl hsf)), (sh, .inr (8, [.ref sm, .ref wd, .ref bl, u.1.2.2.2.1, u.1.2.2.2.2.1])), (sm, .inl (cI, 8, .inl u.1.1)), (wd, .inl (cI, 64, .inl u.1.2.1)), (bl, .inl (cB, 64, .inl u.1.2.2.1)), (dgA, .inl (cB, 32, .inl u.1.2.2.2.2.2))]) hP hD [0, 1, 2, 3, 4, 5, 6, 7, 8, 9, 10, 11] [12] rfl rfl (by decide) (by decide) hk1 hFc hP1 hD1
    generalize H1 = H at hP hS ht ⊢
    have hP : va_P (dC, dI) classes [(o, .inl (cL, 1, .inr (.inl oo9))), (h, .inr (0, [ps_tape, .ref rp, .ref sh, .ref sk, ps_intake, ps_view, ps_text, ps_maker, ps_recording, ps_tapeLength, ps_lastFault])), (rp, .inl (cR, 8, .inr (.inr (.inr (.inr rf))))), (rr, .inr (7, [.ref mb, .ref dgA, rr_size, .int (nI rv), .int u.2])), (mb, .inl (cL, 8, .inr (.inl mw))), (sk, .inr (9, [sk_bytes, sk_from, sk_firstDependency, sk_firstChange, sk_dependencies, .ref hs, .ref bh, sk_leansOn, sk_leantBy, sk_changes, sk_lines, .int (nI S.P)])), (bh, .inl (cI, 500, .inl bhf)), (hs, .inl (cB, 16032, .inl hsf)), (sh, .inr (8, [.ref sm, .ref wd, .ref bl, u.1.2.2.2.1, u.1.2.2.2.2.1])), (sm, .inl (cI, 8, .inl u.1.1)), (wd, .inl (cI, 64, .inl u.1.2.1)), (bl, .inl (cB, 64, .inl u.1.2.2.1)), (dgA, .inl (cB, 32, .inl u.1.2.2.2.2.2))] H := hP
    have hD : va_D A [(o, .inl (cL, 1, .inr (.inl oo9))), (h, .inr (0, [ps_tape, .ref rp, .ref sh, .ref sk, ps_intake, ps_view, ps_text, ps_maker, ps_recording, ps_tapeLength, ps_lastFault])), (rp, .inl (cR, 8, .inr (.inr (.inr (.inr rf))))), (rr, .inr (7, [.ref mb, .ref dgA, rr_size, .int (nI rv), .int u.2])), (mb, .inl (cL, 8, .inr (.inl mw))), (sk, .inr (9, [sk_bytes, sk_from, sk_firstDependency, sk_firstChange, sk_dependencies, .ref hs, .ref bh, sk_leansOn, sk_leantBy, sk_changes, sk_lines, .int (nI S.P)])), (bh, .inl (cI, 500, .inl bhf)), (hs, .inl (cB, 16032, .inl hsf)), (sh, .inr (8, [.ref sm, .ref wd, .ref bl, u.1.2.2.2.1, u.1.2.2.2.2.1])), (sm, .inl (cI, 8, .inl u.1.1)), (wd, .inl (cI, 64, .inl u.1.2.1)), (bl, .inl (cB, 64, .inl u.1.2.2.1)), (dgA, .inl (cB, 32, .inl u.1.2.2.2.2.2))] := hD
    obtain rfl := hC9
    have hcd : cd_state "java/lang/IndexOutOfBoundsException" = 2 := by first | decide | (simp [cd_state]; done)
    refine xc_catch (tgt := 17) hown hrows ht hvm hex ⟨⟨by decide, by decide⟩, by decide, "java/util/NoSuchElementException", hts _ gw_695, Or.inr ⟨hNc ("java/lang/IndexOutOfBoundsException", "java/util/NoSuchElementException") (by decide), ⟨⟨by decide, by decide⟩, by decide, "java/lang/IndexOutOfBoundsException", hts _ gw_1271, Or.inl ⟨va_Nw.use rfl (hN _ gn_1282), rfl⟩⟩⟩⟩ ?_
    refine lv_astore (lv' := [(4, .ref x9), (0, .ref h), (1, .int (nI r9)), (2, .int p1), (3, .ref o)]) hx hb d_Lw_state_17 hl (by decide) rfl (fun ls hl => ?_)
    refine lv_iconst (v := 2) hx hb d_Lw_state_19 (by decide) ?_
    have hP := hP.sub (ws' := [(h, .inr (0, [ps_tape, .ref rp, .ref sh, .ref sk, ps_intake, ps_view, ps_text, ps_maker, ps_recording, ps_tapeLength, ps_lastFault])), (rp, .inl (cR, 8, .inr (.inr (.inr (.inr rf))))), (rr, .inr (7, [.ref mb, .ref dgA, rr_size, .int (nI rv), .int u.2])), (mb, .inl (cL, 8, .inr (.inl mw))), (sk, .inr (9, [sk_bytes, sk_from, sk_firstDependency, sk_firstChange, sk_dependencies, .ref hs, .ref bh, sk_leansOn, sk_leantBy, sk_changes, sk_lines, .int (nI S.P)])), (bh, .inl (cI, 500, .inl bhf)), (hs, .inl (cB, 16032, .inl hsf)), (sh, .inr (8, [.ref sm, .ref wd, .ref bl, u.1.2.2.2.1, u.1.2.2.2.2.1])), (sm, .inl (cI, 8, .inl u.1.1)), (wd, .inl (cI, 64, .inl u.1.2.1)), (bl, .inl (cB, 64, .inl u.1.2.2.1)), (dgA, .inl (cB, 32, .inl u.1.2.2.2.2.2)), (o, .inl (cL, 1, .inr (.inl oo9)))]) [1, 2, 3, 4, 5, 6, 7, 8, 9, 10, 11, 12, 0] rfl
    have hD := hD.sub (ws' := [(h, .inr (0, [ps_tape, .ref rp, .ref sh, .ref sk, ps_intake, ps_view, ps_text, ps_maker, ps_recording, ps_tapeLength, ps_lastFault])), (rp, .inl (cR, 8, .inr (.inr (.inr (.inr rf))))), (rr, .inr (7, [.ref mb, .ref dgA, rr_size, .int (nI rv), .int u.2])), (mb, .inl (cL, 8, .inr (.inl mw))), (sk, .inr (9, [sk_bytes, sk_from, sk_firstDependency, sk_firstChange, sk_dependencies, .ref hs, .ref bh, sk_leansOn, sk_leantBy, sk_changes, sk_lines, .int (nI S.P)])), (bh, .inl (cI, 500, .inl bhf)), (hs, .inl (cB, 16032, .inl hsf)), (sh, .inr (8, [.ref sm, .ref wd, .ref bl, u.1.2.2.2.1, u.1.2.2.2.2.1])), (sm, .inl (cI, 8, .inl u.1.1)), (wd, .inl (cI, 64, .inl u.1.2.1)), (bl, .inl (cB, 64, .inl u.1.2.2.1)), (dgA, .inl (cB, 32, .inl u.1.2.2.2.2.2)), (o, .inl (cL, 1, .inr (.inl oo9)))]) [1, 2, 3, 4, 5, 6, 7, 8, 9, 10, 11, 12, 0] (by decide) rfl
    refine W.widen (k := 3) (n := 18) (Nat.le_of_ble_eq_true rfl) (Nat.le_of_ble_eq_true rfl) ?_
    exact xc_ret (W.iret (v := 2) hx hb hr (fun t ht hW => ⟨Or.inl ⟨_, (u, oo9), rfl, Or.inr ⟨_, congrArg (fun z => some (Value.int z)) hcd.symm, hw⟩, (by rw [ht]; exact hP), va_K.moved hW.alike hK, hD⟩, hS.F ht⟩) hS.2.2 d_Lw_state_20)
