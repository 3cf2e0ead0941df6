/-! 24.add0.lean.txt -/
theorem gw_700 : (Jvm.Cond.methodLink "PatchStore" (90 : Nat) ({ cls := "PatchStore", name := "repositoryAt", desc := "(I)LPatchStore$Repository;" } : Jvm.MethodName)) ∈ xg_1 := xg_s3 220 rfl rfl
theorem gw_702 : (Jvm.Cond.instanceMethod ({ cls := "PatchStore", name := "repositoryAt", desc := "(I)LPatchStore$Repository;" } : Jvm.MethodName)) ∈ xg_1 := xg_s3 222 rfl rfl
theorem gw_703 : (Jvm.Cond.code ({ cls := "PatchStore", name := "repositoryAt", desc := "(I)LPatchStore$Repository;" } : Jvm.MethodName) prog_1_method_22_code (2 : Nat) (Option.some (Jvm.ClassFile.FieldType.object "PatchStore$Repository"))) ∈ xg_1 := xg_s3 223 rfl rfl
theorem gw_719 : (Jvm.Cond.methodLink "PatchStore" (94 : Nat) ({ cls := "PatchStore", name := "tapeIsName", desc := "()Z" } : Jvm.MethodName)) ∈ xg_1 := xg_s3 239 rfl rfl
theorem gw_721 : (Jvm.Cond.instanceMethod ({ cls := "PatchStore", name := "tapeIsName", desc := "()Z" } : Jvm.MethodName)) ∈ xg_1 := xg_s4 1 rfl rfl
theorem gw_722 : (Jvm.Cond.code ({ cls := "PatchStore", name := "tapeIsName", desc := "()Z" } : Jvm.MethodName) prog_1_method_21_code (1 : Nat) (Option.some Jvm.ClassFile.FieldType.boolean)) ∈ xg_1 := xg_s4 2 rfl rfl
def y_PS_tapeIsName : MethodName := ⟨"PatchStore", "tapeIsName", "()Z"⟩
abbrev c_PS_tapeIsName : Cond := (Jvm.Cond.code ({ cls := "PatchStore", name := "tapeIsName", desc := "()Z" } : Jvm.MethodName) prog_1_method_21_code (1 : Nat) (Option.some Jvm.ClassFile.FieldType.boolean))
abbrev ws_PS_tapeIsName : List Cond := c_PS_tapeIsName :: xg_1
theorem d_PS_tapeIsName_0 : decode prog_1_method_21_code 0 = .ok (.aload_n 0, 1) := by decide +kernel
theorem d_PS_tapeIsName_1 : decode prog_1_method_21_code 1 = .ok (.getfield 76, 3) := by decide +kernel
theorem d_PS_tapeIsName_4 : decode prog_1_method_21_code 4 = .ok (.iconst 1, 1) := by decide +kernel
theorem d_PS_tapeIsName_5 : decode prog_1_method_21_code 5 = .ok (.if_icmp .lt 31, 3) := by decide +kernel
theorem d_PS_tapeIsName_8 : decode prog_1_method_21_code 8 = .ok (.aload_n 0, 1) := by decide +kernel
theorem d_PS_tapeIsName_9 : decode prog_1_method_21_code 9 = .ok (.getfield 76, 3) := by decide +kernel
theorem d_PS_tapeIsName_12 : decode prog_1_method_21_code 12 = .ok (.bipush 64, 2) := by decide +kernel
theorem d_PS_tapeIsName_14 : decode prog_1_method_21_code 14 = .ok (.if_icmp .gt 22, 3) := by decide +kernel
theorem d_PS_tapeIsName_17 : decode prog_1_method_21_code 17 = .ok (.aload_n 0, 1) := by decide +kernel
theorem d_PS_tapeIsName_18 : decode prog_1_method_21_code 18 = .ok (.getfield 10, 3) := by decide +kernel
theorem d_PS_tapeIsName_21 : decode prog_1_method_21_code 21 = .ok (.iconst 0, 1) := by decide +kernel
theorem d_PS_tapeIsName_22 : decode prog_1_method_21_code 22 = .ok (.aload_n 0, 1) := by decide +kernel
theorem d_PS_tapeIsName_23 : decode prog_1_method_21_code 23 = .ok (.getfield 76, 3) := by decide +kernel
theorem d_PS_tapeIsName_26 : decode prog_1_method_21_code 26 = .ok (.invokestatic 282, 3) := by decide +kernel
theorem d_PS_tapeIsName_29 : decode prog_1_method_21_code 29 = .ok (.ifCond .eq 7, 3) := by decide +kernel
theorem d_PS_tapeIsName_32 : decode prog_1_method_21_code 32 = .ok (.iconst 1, 1) := by decide +kernel
theorem d_PS_tapeIsName_33 : decode prog_1_method_21_code 33 = .ok (.goto 4, 3) := by decide +kernel
theorem d_PS_tapeIsName_36 : decode prog_1_method_21_code 36 = .ok (.iconst 0, 1) := by decide +kernel
theorem d_PS_tapeIsName_37 : decode prog_1_method_21_code 37 = .ok (.ireturn, 1) := by decide +kernel
def y_PS_add : MethodName := ⟨"PatchStore", "add", "(II)I"⟩
abbrev c_PS_add : Cond := (Jvm.Cond.code ({ cls := "PatchStore", name := "add", desc := "(II)I" } : Jvm.MethodName) prog_1_method_4_code (4 : Nat) (Option.some Jvm.ClassFile.FieldType.int))
abbrev ws_PS_add : List Cond := c_PS_add :: xg_1
theorem d_PS_add_0 : decode prog_1_method_4_code 0 = .ok (.aload_n 0, 1) := by decide +kernel
theorem d_PS_add_1 : decode prog_1_method_4_code 1 = .ok (.iload_n 1, 1) := by decide +kernel
theorem d_PS_add_2 : decode prog_1_method_4_code 2 = .ok (.invokevirtual 90, 3) := by decide +kernel
theorem d_PS_add_5 : decode prog_1_method_4_code 5 = .ok (.astore_n 3, 1) := by decide +kernel
theorem d_PS_add_6 : decode prog_1_method_4_code 6 = .ok (.aload_n 0, 1) := by decide +kernel
theorem d_PS_add_7 : decode prog_1_method_4_code 7 = .ok (.invokevirtual 94, 3) := by decide +kernel
theorem d_PS_add_10 : decode prog_1_method_4_code 10 = .ok (.ifCond .ne 11, 3) := by decide +kernel
theorem d_PS_add_13 : decode prog_1_method_4_code 13 = .ok (.new 87, 3) := by decide +kernel
theorem d_PS_add_16 : decode prog_1_method_4_code 16 = .ok (.dup, 1) := by decide +kernel
theorem d_PS_add_17 : decode prog_1_method_4_code 17 = .ok (.invokespecial 89, 3) := by decide +kernel
theorem d_PS_add_20 : decode prog_1_method_4_code 20 = .ok (.athrow, 1) := by decide +kernel
theorem d_PS_add_21 : decode prog_1_method_4_code 21 = .ok (.aload_n 0, 1) := by decide +kernel
theorem d_PS_add_22 : decode prog_1_method_4_code 22 = .ok (.getfield 62, 3) := by decide +kernel
theorem d_PS_add_25 : decode prog_1_method_4_code 25 = .ok (.iload_n 2, 1) := by decide +kernel
theorem d_PS_add_26 : decode prog_1_method_4_code 26 = .ok (.aload_n 0, 1) := by decide +kernel
theorem d_PS_add_27 : decode prog_1_method_4_code 27 = .ok (.getfield 10, 3) := by decide +kernel
theorem d_PS_add_30 : decode prog_1_method_4_code 30 = .ok (.aload_n 0, 1) := by decide +kernel
theorem d_PS_add_31 : decode prog_1_method_4_code 31 = .ok (.getfield 76, 3) := by decide +kernel
theorem d_PS_add_34 : decode prog_1_method_4_code 34 = .ok (.invokevirtual 98, 3) := by decide +kernel
theorem d_PS_add_37 : decode prog_1_method_4_code 37 = .ok (.aload_n 0, 1) := by decide +kernel
theorem d_PS_add_38 : decode prog_1_method_4_code 38 = .ok (.aload_n 3, 1) := by decide +kernel
theorem d_PS_add_39 : decode prog_1_method_4_code 39 = .ok (.aload_n 0, 1) := by decide +kernel
theorem d_PS_add_40 : decode prog_1_method_4_code 40 = .ok (.getfield 39, 3) := by decide +kernel
theorem d_PS_add_43 : decode prog_1_method_4_code 43 = .ok (.aload_n 3, 1) := by decide +kernel
theorem d_PS_add_44 : decode prog_1_method_4_code 44 = .ok (.invokevirtual 102, 3) := by decide +kernel
theorem d_PS_add_47 : decode prog_1_method_4_code 47 = .ok (.invokevirtual 106, 3) := by decide +kernel
theorem d_PS_add_50 : decode prog_1_method_4_code 50 = .ok (.ireturn, 1) := by decide +kernel
theorem nz_b0 : narrow .boolean (.int 0) = .int 0 := by decide
theorem nz_b1 : narrow .boolean (.int 1) = .int 1 := by decide
set_option maxHeartbeats 4000000 in
set_option maxRecDepth 100000 in
/-- tapeIsName of nothing -/
theorem m_PS_tapeIsName0 (l : Launch) (dC : Nat → ClassId) (dI : Nat → Nat → Nat) (cI cB cL cZ cR : ClassId) (h : Nat) (ps_tape ps_repositories ps_sha ps_stock ps_intake ps_view ps_text ps_maker ps_recording ps_lastFault : Value) (sz : Nat) : Met l y_PS_tapeIsName ws_PS_tapeIsName ({ frames := 0, cells := 0, slots := 0, locals := 0 }) (xw_Pc dC dI [(cI, .int), (cB, .byte), (cL, .long), (cZ, .boolean), (cR, .object "PatchStore$Repository")] [.ref h] [(h, .inr (0, [ps_tape, ps_repositories, ps_sha, ps_stock, ps_intake, ps_view, ps_text, ps_maker, ps_recording, .int 0, ps_lastFault]))] sz) (va_Qi (fun (r : Int32) (_ : Unit) => r = 0) (fun _ t => xw_B dC dI [(cI, .int), (cB, .byte), (cL, .long), (cZ, .boolean), (cR, .object "PatchStore$Repository")] (va_A [(h, .inr (0, [ps_tape, ps_repositories, ps_sha, ps_stock, ps_intake, ps_view, ps_text, ps_maker, ps_recording, .int 0, ps_lastFault]))] sz) [(h, .inr (0, [ps_tape, ps_repositories, ps_sha, ps_stock, ps_intake, ps_view, ps_text, ps_maker, ps_recording, .int 0, ps_lastFault]))] t) (va_A [(h, .inr (0, [ps_tape, ps_repositories, ps_sha, ps_stock, ps_intake, ps_view, ps_text, ps_maker, ps_recording, .int 0, ps_lastFault]))] sz)) 0 0 (va_A [(h, .inr (0, [ps_tape, ps_repositories, ps_sha, ps_stock, ps_intake, ps_view, ps_text, ps_maker, ps_recording, .int 0, ps_lastFault]))] sz) := by
  refine Met.ofW (cc := prog_1_method_21_code) (maxL := 1) (ret := (Option.some Jvm.ClassFile.FieldType.boolean)) (by decide) rfl ?_
  intro p e s m args below meth c s₁ B hml hv
  obtain ⟨rfl, hsz, hP, hK, hD0⟩ := hv
  have hx := B.exec
  have hb := B.bytes
  have hr := B.returns
  have hts0 := atoms_spec (ws := ws_PS_tapeIsName) B.pre
  have hts : ∀ w ∈ xg_1, w.before _ s = true := fun w h => hts0 w (List.mem_cons_of_mem _ h)
  have hown : s.vm.findClass "PatchStore" = some m.cls := findClass_of_methodNamed B.named
  have hlocks := B.notSynchronized
  subst hsz
  have hD := hD0.self (sz := s.heap.size)
  generalize hAe : va_A [(h, .inr (0, [ps_tape, ps_repositories, ps_sha, ps_stock, ps_intake, ps_view, ps_text, ps_maker, ps_recording, .int 0, ps_lastFault]))] s.heap.size = A at hD ⊢
  have hA : ∀ q : Nat, s.heap.size ≤ q → A q := fun q h => by rw [← hAe]; exact Or.inr h
  have hS : va_S A s.heap s.heap [] := va_S.rf
  have hl := lv_entry ([.ref h]) (n := 1) (Nat.le_of_ble_eq_true rfl)
  rw [lg_entry_eq]
  generalize (lg_sl ([.ref h]) ++ List.replicate (1 - (lg_sl ([.ref h])).length) Slot.unset).toArray = ls at hl ⊢
  have hl : lv_has ls 1 [(0, .ref h)] := hl
  refine lv_aload_n hx hb d_PS_tapeIsName_0 rfl (lv_at hl 0 rfl) ?_
  refine va_get (D := (dC, dI)) (ci := 0) (v := .int 0) (C := R_PS) (T := F_PS) (N := 11) hx hb hts i_PS hown hK hP 0 rfl rfl 9 (by decide) (hts _ gw_557) (fun _ h9 => h9) rfl d_PS_tapeIsName_1 ?_
  refine lv_iconst (v := 1) hx hb d_PS_tapeIsName_4 (by decide) ?_
  refine lv_icmp_lt (tgt := 36) hx hb d_PS_tapeIsName_5 (by decide) (fun _ => ?_) (fun c_5 => absurd (by decide) c_5)
  refine lv_iconst (v := 0) hx hb d_PS_tapeIsName_36 (by decide) ?_
  exact W.zret (v := 0) hx hb hr nz_b0 (fun t ht hW => ⟨⟨_, (), rfl, rfl, by rw [ht]; exact hP, va_K.moved hW.alike hK, hD⟩, hS.F ht⟩) hS.2.2 d_PS_tapeIsName_37
set_option maxHeartbeats 4000000 in
set_option maxRecDepth 100000 in
/-- add, with nothing on the tape -/
theorem m_PS_add0 (l : Launch) (dC : Nat → ClassId) (dI : Nat → Nat → Nat) (cI cB cL cZ cR : ClassId) (hlt : xl_T l) (h rp : Nat) (ps_tape ps_sha ps_stock ps_intake ps_view ps_text ps_maker ps_recording ps_lastFault : Value) (g : Nat → Nat) (rf : Nat → Option Nat) (p0 p1 : Int32) (sz : Nat) (hrf : ∀ k, k < 8 → rf k = some (g k)) : xc_Met l y_PS_add ws_PS_add ({ frames := 12, cells := 2, slots := 12, locals := 300 }) (xw_Px dC dI [(cI, .int), (cB, .byte), (cL, .long), (cZ, .boolean), (cR, .object "PatchStore$Repository")] [.ref h, .int p0, .int p1] [(h, .inr (0, [ps_tape, .ref rp, ps_sha, ps_stock, ps_intake, ps_view, ps_text, ps_maker, ps_recording, .int 0, ps_lastFault])), (rp, .inl (cR, 8, .inr (.inr (.inr (.inr rf)))))] sz) (xc_Q (S := Unit) (fun _ (_ : Unit) => False) (fun C (_ : Unit) => ((¬ ∃ n : Nat, n < 8 ∧ p0 = nI n) ∧ C = "java/util/NoSuchElementException") ∨ ((∃ n : Nat, n < 8 ∧ p0 = nI n) ∧ C = "java/lang/IllegalArgumentException")) (fun _ t => xw_B dC dI [(cI, .int), (cB, .byte), (cL, .long), (cZ, .boolean), (cR, .object "PatchStore$Repository")] (va_A [(h, .inr (0, [ps_tape, .ref rp, ps_sha, ps_stock, ps_intake, ps_view, ps_text, ps_maker, ps_recording, .int 0, ps_lastFault])), (rp, .inl (cR, 8, .inr (.inr (.inr (.inr rf)))))] sz) [(h, .inr (0, [ps_tape, .ref rp, ps_sha, ps_stock, ps_intake, ps_view, ps_text, ps_maker, ps_recording, .int 0, ps_lastFault])), (rp, .inl (cR, 8, .inr (.inr (.inr (.inr rf)))))] t) (va_A [(h, .inr (0, [ps_tape, .ref rp, ps_sha, ps_stock, ps_intake, ps_view, ps_text, ps_maker, ps_recording, .int 0, ps_lastFault])), (rp, .inl (cR, 8, .inr (.inr (.inr (.inr rf)))))] sz)) 2 12 (va_A [(h, .inr (0, [ps_tape, .ref rp, ps_sha, ps_stock, ps_intake, ps_view, ps_text, ps_maker, ps_recording, .int 0, ps_lastFault])), (rp, .inl (cR, 8, .inr (.inr (.inr (.inr rf)))))] sz) := by
  refine xc_ofW (cc := prog_1_method_4_code) (maxL := 4) (ret := (Option.some Jvm.ClassFile.FieldType.int)) (by decide) rfl ?_
  intro p e s m args below meth c s₁ B hml hno hv
  obtain ⟨rfl, hsz, hP, hK, hD0, hN, hTh⟩ := hv
  have htr : e.platform.stackTraces = false := hlt e B.admits
  have hx := B.exec
  have hb := B.bytes
  have hr := B.returns
  have hts0 := atoms_spec (ws := ws_PS_add) B.pre
  have hts : ∀ w ∈ xg_1, w.before _ s = true := fun w h => hts0 w (List.mem_cons_of_mem _ h)
  have hown : s.vm.findClass "PatchStore" = some m.cls := findClass_of_methodNamed B.named
  have hlocks := B.notSynchronized
  subst hsz
  have hD := hD0.self (sz := s.heap.size)
  generalize hAe : va_A [(h, .inr (0, [ps_tape, .ref rp, ps_sha, ps_stock, ps_intake, ps_view, ps_text, ps_maker, ps_recording, .int 0, ps_lastFault])), (rp, .inl (cR, 8, .inr (.inr (.inr (.inr rf)))))] s.heap.size = A at hD hTh ⊢
  have hA : ∀ q : Nat, s.heap.size ≤ q → A q := fun q h => by rw [← hAe]; exact Or.inr h
  have hS : va_S A s.heap s.heap [] := va_S.rf
  have hl := lv_entry ([.ref h, .int p0, .int p1]) (n := 4) (Nat.le_of_ble_eq_true rfl)
  rw [lg_entry_eq]
  generalize (lg_sl ([.ref h, .int p0, .int p1]) ++ List.replicate (4 - (lg_sl ([.ref h, .int p0, .int p1])).length) Slot.unset).toArray = ls at hl ⊢
  have hl : lv_has ls 4 [(0, .ref h), (1, .int p0), (2, .int p1)] := hl
  refine lv_aload_n hx hb d_PS_add_0 rfl (lv_at hl 0 rfl) ?_
  refine lv_iload_n hx hb d_PS_add_1 rfl (lv_at hl 1 rfl) ?_
  have hPc := hP.sub (ws' := [(h, .inr (0, [ps_tape, .ref rp, ps_sha, ps_stock, ps_intake, ps_view, ps_text, ps_maker, ps_recording, .int 0, ps_lastFault])), (rp, .inl (cR, 8, .inr (.inr (.inr (.inr rf)))))]) [0, 1] rfl
  have hDc := hD.sub (ws' := [(h, .inr (0, [ps_tape, .ref rp, ps_sha, ps_stock, ps_intake, ps_view, ps_text, ps_maker, ps_recording, .int 0, ps_lastFault])), (rp, .inl (cR, 8, .inr (.inr (.inr (.inr rf)))))]) [0, 1] (by decide) rfl
  have hFc := va_free (wc := [(h, .inr (0, [ps_tape, .ref rp, ps_sha, ps_stock, ps_intake, ps_view, ps_text, ps_maker, ps_recording, .int 0, ps_lastFault])), (rp, .inl (cR, 8, .inr (.inr (.inr (.inr rf)))))]) hD hS hA [0, 1] rfl
  refine xc_call (xc_runV (As := [.int p0]) (rest := []) (C := "PatchStore") ⟨hx, hb, hml, hown, hts⟩ (m_PS_repositoryAt l dC dI cI cB cL cZ cR hlt h rp (ps_tape) (ps_sha) (ps_stock) (ps_intake) (ps_view) (ps_text) (ps_maker) (ps_recording) (.int 0) (ps_lastFault) g rf p0 s.heap.size hrf) (xc_bOf 1 hts (xg_in gw_703) (xc_Is.code (hts _ gw_703)) rfl rfl (hts _ gw_1) (by decide +kernel) ⟨Nat.le_of_ble_eq_true rfl, Nat.le_of_ble_eq_true rfl⟩) (hts _ gw_700) (hts _ gw_702) (hts _ (xg_p 2 (q := (⟨"PatchStore", "repositoryAt", "(I)LPatchStore$Repository;"⟩, 11)) (by decide +kernel))) ⟨xw_blindx, va_recv hK hPc (ci := 0) (q0 := 0) rfl rfl, fun U hU hW => ⟨rfl, by rw [hU], by rw [hU]; exact hPc, va_K.moved hW.alike hK, hDc.weaken (fun _ _ _ _ => trivial), xg_N.warm hW hN, by rw [hU]; exact ((hTh.kept (fun a h1 h2 => hS.2.1 a h1 h2)).narrow hFc).moved hW.alike⟩⟩ rfl rfl hl.1 rfl (lv_room (Nat.le_of_ble_eq_true rfl)) d_PS_add_2 ⟨Nat.le_of_ble_eq_true rfl, Nat.le_of_ble_eq_true rfl⟩) hS (fun q _ h => hFc q h) hFc (fun v9 u t H1 locs ht hvm hw hB hz1 hk1 hS => ?_) (fun x9 C9 u t H1 locs ht hvm hw hex hB hz1 hk1 hS => ?_)
  · obtain ⟨n0, hn0, hp0, rfl⟩ := hw
    obtain ⟨hP1, hK1, hD1⟩ := hB
    rw [ht] at hP1
    obtain ⟨hP, hD⟩ := va_join (wr := []) (w1 := [(h, .inr (0, [ps_tape, .ref rp, ps_sha, ps_stock, ps_intake, ps_view, ps_text, ps_maker, ps_recording, .int 0, ps_lastFault])), (rp, .inl (cR, 8, .inr (.inr (.inr (.inr rf)))))]) hP hD [0, 1] [] rfl rfl (by decide) (by decide) hk1 hFc hP1 hD1
    generalize H1 = H at hP hS ht ⊢
    have hP : va_P (dC, dI) classes [(h, .inr (0, [ps_tape, .ref rp, ps_sha, ps_stock, ps_intake, ps_view, ps_text, ps_maker, ps_recording, .int 0, ps_lastFault])), (rp, .inl (cR, 8, .inr (.inr (.inr (.inr rf)))))] H := hP
    have hD : va_D A [(h, .inr (0, [ps_tape, .ref rp, ps_sha, ps_stock, ps_intake, ps_view, ps_text, ps_maker, ps_recording, .int 0, ps_lastFault])), (rp, .inl (cR, 8, .inr (.inr (.inr (.inr rf)))))] := hD
    refine W.eq (g2 := F0 m 5 ls [.ref (g n0)]) rfl ?_
    refine W.widen (k := 1) (n := 6) (Nat.le_of_ble_eq_true rfl) (Nat.le_of_ble_eq_true rfl) ?_
    refine lv_astore_n (lv' := [(3, .ref (g n0)), (0, .ref h), (1, .int p0), (2, .int p1)]) hx hb d_PS_add_5 rfl hl (by decide) rfl (fun ls hl => ?_)
    refine lv_aload_n hx hb d_PS_add_6 rfl (lv_at hl 1 rfl) ?_
    have hPc := hP.sub (ws' := [(h, .inr (0, [ps_tape, .ref rp, ps_sha, ps_stock, ps_intake, ps_view, ps_text, ps_maker, ps_recording, .int 0, ps_lastFault]))]) [0] rfl
    have hDc := hD.sub (ws' := [(h, .inr (0, [ps_tape, .ref rp, ps_sha, ps_stock, ps_intake, ps_view, ps_text, ps_maker, ps_recording, .int 0, ps_lastFault]))]) [0] (by decide) rfl
    have hFc := va_free (wc := [(h, .inr (0, [ps_tape, .ref rp, ps_sha, ps_stock, ps_intake, ps_view, ps_text, ps_maker, ps_recording, .int 0, ps_lastFault]))]) hD hS hA [0] rfl
    refine va_calli (va_runV (As := []) (rest := []) ⟨hx, hb, hml, hown, hts⟩ (m_PS_tapeIsName0 l dC dI cI cB cL cZ cR h (ps_tape) (.ref rp) (ps_sha) (ps_stock) (ps_intake) (ps_view) (ps_text) (ps_maker) (ps_recording) (ps_lastFault) H.size ) (cwV 0 hts (xg_V gw_719 gw_721 (xg_p 3 (q := (⟨"PatchStore", "tapeIsName", "()Z"⟩, 11)) (by decide +kernel)) gw_1 gw_722) rfl rfl rfl (by decide +kernel) ⟨Nat.le_of_ble_eq_true rfl, Nat.le_of_ble_eq_true rfl⟩) ⟨xw_blind, va_recv hK hPc (ci := 0) (q0 := 0) rfl rfl, fun U hU hW => ⟨rfl, by rw [hU], by rw [hU]; exact hPc, va_K.moved hW.alike hK, hDc.weaken (fun _ _ _ _ => trivial)⟩⟩ rfl rfl hl.1 rfl (lv_room (Nat.le_of_ble_eq_true rfl)) d_PS_add_7 ⟨Nat.le_of_ble_eq_true rfl, Nat.le_of_ble_eq_true rfl⟩) hS (fun q _ h => hFc q h) hFc (fun r9 u t H1 locs ht hvm hw hB hz1 hk1 hS => ?_)
    obtain ⟨hP1, hK1, hD1⟩ := hB
    rw [ht] at hP1
    obtain ⟨hP, hD⟩ := va_join (wr := [(rp, .inl (cR, 8, .inr (.inr (.inr (.inr rf)))))]) (w1 := [(h, .inr (0, [ps_tape, .ref rp, ps_sha, ps_stock, ps_intake, ps_view, ps_text, ps_maker, ps_recording, .int 0, ps_lastFault]))]) hP hD [0] [1] rfl rfl (by decide) (by decide) hk1 hFc hP1 hD1
    generalize H1 = H at hP hS ⊢
    have hP : va_P (dC, dI) classes [(rp, .inl (cR, 8, .inr (.inr (.inr (.inr rf))))), (h, .inr (0, [ps_tape, .ref rp, ps_sha, ps_stock, ps_intake, ps_view, ps_text, ps_maker, ps_recording, .int 0, ps_lastFault]))] H := hP
    have hD : va_D A [(rp, .inl (cR, 8, .inr (.inr (.inr (.inr rf))))), (h, .inr (0, [ps_tape, .ref rp, ps_sha, ps_stock, ps_intake, ps_view, ps_text, ps_maker, ps_recording, .int 0, ps_lastFault]))] := hD
    subst hw
    refine lv_if_ne (tgt := 21) hx hb d_PS_add_10 (by decide) (fun c_10 => absurd c_10 (by decide)) (fun _ => ?_)
    have hP := hP.sub (ws' := [(h, .inr (0, [ps_tape, .ref rp, ps_sha, ps_stock, ps_intake, ps_view, ps_text, ps_maker, ps_recording, .int 0, ps_lastFault])), (rp, .inl (cR, 8, .inr (.inr (.inr (.inr rf)))))]) [1, 0] rfl
    have hD := hD.sub (ws' := [(h, .inr (0, [ps_tape, .ref rp, ps_sha, ps_stock, ps_intake, ps_view, ps_text, ps_maker, ps_recording, .int 0, ps_lastFault])), (rp, .inl (cR, 8, .inr (.inr (.inr (.inr rf)))))]) [1, 0] (by decide) rfl
    refine xc_thrownew (A := A) (own := "PatchStore") (C := "java/lang/IllegalArgumentException") (names := ["java/lang/RuntimeException", "java/lang/Exception"]) (i1 := 87) (i2 := 89) hx hb hml hl.1 hown hlocks hno htr (by decide +kernel) (by decide +kernel) (tw_PS_87 hts hN) (tr_PS_87) (ti_PS_87) (hTh.1.kept (fun a h1 h2 => hS.2.1 a h1 h2)) d_PS_add_13 d_PS_add_16 d_PS_add_17 d_PS_add_20 (Nat.le_of_ble_eq_true rfl) (Nat.le_of_ble_eq_true rfl) (Nat.le_of_ble_eq_true rfl) (Nat.le_of_ble_eq_true rfl) (fun x9 t9 H9 e1 e2 e3 hW9 hex => ⟨Or.inr ⟨x9, "java/lang/IllegalArgumentException", (), rfl, Or.inr ⟨⟨n0, hn0, hp0⟩, rfl⟩, hex, (by rw [e1]; exact hP.kept (fun k q hq => e3 q.1 ((hP k q hq).lt))), va_K.moved hW9.alike hK, hD⟩, (by rw [e1]; exact Nat.le_trans hS.1 e2), fun q h1 h2 => by rw [e1]; exact (e3 q (Nat.lt_of_lt_of_le h1 hS.1)).trans (hS.2.1 q h1 h2)⟩) hS.2.2
  · obtain ⟨hbad, rfl⟩ := hw
    obtain ⟨hP1, hK1, hD1⟩ := hB
    rw [ht] at hP1
    obtain ⟨hP, hD⟩ := va_join (wr := []) (w1 := [(h, .inr (0, [ps_tape, .ref rp, ps_sha, ps_stock, ps_intake, ps_view, ps_text, ps_maker, ps_recording, .int 0, ps_lastFault])), (rp, .inl (cR, 8, .inr (.inr (.inr (.inr rf)))))]) hP hD [0, 1] [] rfl rfl (by decide) (by decide) hk1 hFc hP1 hD1
    generalize H1 = H at hP hS ht ⊢
    have hP : va_P (dC, dI) classes [(h, .inr (0, [ps_tape, .ref rp, ps_sha, ps_stock, ps_intake, ps_view, ps_text, ps_maker, ps_recording, .int 0, ps_lastFault])), (rp, .inl (cR, 8, .inr (.inr (.inr (.inr rf)))))] H := hP
    have hD : va_D A [(h, .inr (0, [ps_tape, .ref rp, ps_sha, ps_stock, ps_intake, ps_view, ps_text, ps_maker, ps_recording, .int 0, ps_lastFault])), (rp, .inl (cR, 8, .inr (.inr (.inr (.inr rf)))))] := hD
    refine xc_TW.widen (k := 2) (n := 12) (Nat.le_of_ble_eq_true rfl) (Nat.le_of_ble_eq_true rfl) ?_
    exact xc_pass (u := ()) hlocks hno ht hvm hex (Or.inl ⟨hbad, rfl⟩) (fun t9 h9 hW9 => ⟨by rw [h9]; exact hP, va_K.moved hW9.alike hK, hD⟩) hS
