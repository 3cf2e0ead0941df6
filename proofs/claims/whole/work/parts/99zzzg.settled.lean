/-! 99zzzg.settled.lean.txt -/
theorem gw_723 : (Jvm.Cond.methodLink "PatchStore" (282 : Nat) ({ cls := "PatchStore$Form", name := "isPlain", desc := "([BII)Z" } : Jvm.MethodName)) ∈ xg_1 := xg_s4 3 rfl rfl
def y_PS_takeSettled : MethodName := ⟨"PatchStore", "takeSettled", "(LPatchStore$Repository;I)I"⟩
abbrev c_PS_takeSettled : Cond := (Jvm.Cond.code ({ cls := "PatchStore", name := "takeSettled", desc := "(LPatchStore$Repository;I)I" } : Jvm.MethodName) prog_1_method_26_code (3 : Nat) (Option.some Jvm.ClassFile.FieldType.int))
abbrev ws_PS_takeSettled : List Cond := c_PS_takeSettled :: xg_1
theorem d_PS_takeSettled_0 : decode prog_1_method_26_code 0 = .ok (.iload_n 2, 1) := by decide +kernel
theorem d_PS_takeSettled_1 : decode prog_1_method_26_code 1 = .ok (.ifCond .ge 11, 3) := by decide +kernel
theorem d_PS_takeSettled_4 : decode prog_1_method_26_code 4 = .ok (.new 80, 3) := by decide +kernel
theorem d_PS_takeSettled_7 : decode prog_1_method_26_code 7 = .ok (.dup, 1) := by decide +kernel
theorem d_PS_takeSettled_8 : decode prog_1_method_26_code 8 = .ok (.invokespecial 82, 3) := by decide +kernel
theorem d_PS_takeSettled_11 : decode prog_1_method_26_code 11 = .ok (.athrow, 1) := by decide +kernel
theorem d_PS_takeSettled_12 : decode prog_1_method_26_code 12 = .ok (.aload_n 1, 1) := by decide +kernel
theorem d_PS_takeSettled_13 : decode prog_1_method_26_code 13 = .ok (.iload_n 2, 1) := by decide +kernel
theorem d_PS_takeSettled_14 : decode prog_1_method_26_code 14 = .ok (.invokevirtual 180, 3) := by decide +kernel
theorem d_PS_takeSettled_17 : decode prog_1_method_26_code 17 = .ok (.pop, 1) := by decide +kernel
theorem d_PS_takeSettled_18 : decode prog_1_method_26_code 18 = .ok (.aload_n 0, 1) := by decide +kernel
theorem d_PS_takeSettled_19 : decode prog_1_method_26_code 19 = .ok (.iconst 0, 1) := by decide +kernel
theorem d_PS_takeSettled_20 : decode prog_1_method_26_code 20 = .ok (.putfield 76, 3) := by decide +kernel
theorem d_PS_takeSettled_23 : decode prog_1_method_26_code 23 = .ok (.iload_n 2, 1) := by decide +kernel
theorem d_PS_takeSettled_24 : decode prog_1_method_26_code 24 = .ok (.ireturn, 1) := by decide +kernel
/-- the arrays with a candidate behind the stock -/
def StkA.cw (Z : StkA) (S : Stk) (b f9 : Nat → Int32) : StkA := StkA.mk b f9 Z.fd Z.fc Z.dp Z.hs Z.bh S.lo S.lb Z.ca Z.cp Z.cf Z.fl S.ad S.la S.ll S.lc S.lp S.lu S.ld Z.of Z.na Z.lf Z.sm Z.wd Z.bl Z.nf Z.nl Z.fi Z.tk S.P (S.NLp S.P) (S.NFp S.P)
theorem rep.cw {S : Stk} {Z : StkA} {b f9 : Nat → Int32} (R : rep S Z) (hb : ∀ i, i < S.FR S.P → S.f i = b i) (hf : ∀ i, i ≤ S.P → f9 i = Z.fr i) : rep S (Z.cw S b f9) := ⟨fun i z => (hf i z).trans (R.fr i z), R.fd, R.fc, R.dp, R.ca, R.cf, R.fl, R.cp, R.hs, R.bh, rfl, rfl, rfl, rfl, rfl, rfl, rfl, rfl, rfl, R.of, hb, rfl, rfl, rfl⟩
theorem sInv.nT_wf {S : Stk} (I : sInv S) {g : Nat → Int32} (hb : ∀ i, i < S.FR S.P → S.f i = g i) {p : Nat} (hp : p < S.P) : (S.wf g).nT p = S.nT p := by
  have m1 := I.frm (i := p + 1) (k := S.P) (by omega) (Nat.le_refl _)
  have l1 := I.le1 hp
  have hg : ∀ i, i < S.FR (p + 1) → S.f i = g i := fun i z => hb i (by omega)
  have en1 : (S.wf g).nd p = S.nd p := by
    show tw g (S.FR p) = tw S.f (S.FR p)
    exact (tw_cg hg (by omega)).symm
  have est : (S.wf g).st p = S.st p := by
    unfold Stk.st
    rw [en1]; rfl
  unfold Stk.nT
  rw [est]
  show tw g (S.st p) = tw S.f (S.st p)
  exact (tw_cg hg (by unfold Stk.st; omega)).symm
theorem rep.wf {S : Stk} {Z : StkA} {g : Nat → Int32} (I : sInv S) (R : rep S Z) (hb : ∀ i, i < S.FR S.P → S.f i = g i) (hz : ∀ i, i < S.FR S.P → g i = Z.by₇ i) : rep (S.wf g) Z := ⟨R.fr, R.fd, R.fc, R.dp, R.ca, R.cf, (fun i z e => R.fl i z ((hb _ (I.caL z)).trans e)), (fun p j hp hj => R.cp p j hp (by rw [← I.nT_wf hb hp]; exact hj)), R.hs, R.bh, R.lo, R.lb, R.la, R.ll, R.lc, R.lp, R.lu, R.ld, R.ad, R.of, hz, R.pt, R.nL, R.nF⟩
theorem rep.eqcn {S1 : Stk} {uZ : StkA} {b : Nat → Int32} (R : rep S1 uZ) (hb : uZ.by₇ = b) : uZ = uZ.cn (S1.wf b) := by
  subst hb
  have e : uZ = StkA.mk uZ.by₇ uZ.fr uZ.fd uZ.fc uZ.dp uZ.hs uZ.bh S1.lo S1.lb uZ.ca uZ.cp uZ.cf uZ.fl S1.ad S1.la S1.ll S1.lc S1.lp S1.lu S1.ld uZ.of uZ.na uZ.lf uZ.sm uZ.wd uZ.bl uZ.nf uZ.nl uZ.fi uZ.tk S1.P (S1.NLp S1.P) (S1.NFp S1.P) := by
    rw [← R.nL, ← R.nF, ← R.pt, ← R.lo, ← R.lb, ← R.la, ← R.ll, ← R.lc, ← R.lp, ← R.lu, ← R.ld, ← R.ad]
    rfl
  exact e
theorem stl_rng {S S1 : Stk} {bf hs : Nat → Int32} {en : Nat} {mw : Nat → Int64} {r : Int32} (I : sInv S) (I1 : sInv S1) (h : stl S bf hs en mw r S1) : (r = -1 ∨ r = -2 ∨ r = -3 ∨ r = -4 ∨ r = -5) ∨ ∃ p, p < 500 ∧ p < S1.P ∧ r = nI p := by
  have hP1 := I1.hP
  rcases h with ⟨h1, _⟩ | ⟨h1, _⟩ | ⟨h1, _, _, ii, hh, h2⟩ | ⟨_, _, _, h2⟩
  · exact Or.inl (Or.inl h1)
  · exact Or.inl (Or.inr (Or.inl h1))
  · rcases h2 with ⟨_, h3⟩ | ⟨_, h3⟩
    · have hb := I.bh ii hh.1
      subst h1
      exact Or.inr ⟨S1.BH ii, by omega, hb, h3⟩
    · exact Or.inl (Or.inr (Or.inl h3))
  · rcases h2 with ⟨h3, _⟩ | ⟨h3, _⟩ | ⟨CF1, _, _, h4⟩
    · exact Or.inl (Or.inr (Or.inr (Or.inl h3)))
    · exact Or.inl (Or.inr (Or.inr (Or.inr (Or.inl h3))))
    · rcases h4 with ⟨h5, _⟩ | ⟨h5, h6, h7⟩
      · exact Or.inl (Or.inr (Or.inr (Or.inr (Or.inr h5))))
      · obtain ⟨a1, a2, a3, a4, a5, a6, a7, a8, a9, a10, a11, e, _⟩ := h7
        have eP : S1.P = S.P + 1 := by rw [e]; rfl
        exact Or.inr ⟨S.P, by omega, by omega, h5⟩
/-- what settling leaves behind: the stock with the bytes that lie there now -/
def stO (S : Stk) (Z : StkA) (b : Nat → Int32) (en : Nat) (mw : Nat → Int64) (r : Int32) (S₇ : Stk) (Z₇ : StkA) : Prop := ∃ S1, stl S b Z.hs en mw r S1 ∧ S₇ = S1.wf b ∧ rep S₇ Z₇ ∧ sInv S₇ ∧ S₇.P = S1.P ∧ ∀ j, Z₇.hs j = Z.hs j ∨ by1 (Z₇.hs j) = Z₇.hs j
/-- patch p comes into a set -/
def tkT (mw : Nat → Int64) (zi vi : Int32) (p : Nat) (u : (Nat → Int64) × Int32 × Int32) : Prop := (bt mw p = true ∧ u = (mw, zi, vi)) ∨ (bt mw p = false ∧ u = (bt_in mw p, zi + 1, vi + 1))
theorem wrL_lo {b : Nat → Int32} {a i : Nat} {L : List Int32} (h : i < a) : wrL b a L i = b i := by
  unfold wrL
  rw [if_neg (by omega)]
theorem wrL_by {b : Nat → Int32} {a N : Nat} {L : List Int32} (hb : ∀ j, j < N → vp_nar .byte (b j) = b j) (hL : ∀ x, x ∈ L → vp_nar .byte x = x) : ∀ j, j < N → vp_nar .byte (wrL b a L j) = wrL b a L j := fun j hj => by
  unfold wrL
  by_cases h : a ≤ j ∧ j < a + L.length
  · rw [if_pos h]
    have : L.getD (j - a) 0 ∈ L := by
      rw [List.getD_eq_getElem?_getD, List.getElem?_eq_getElem (show j - a < L.length by omega)]
      exact List.getElem_mem _
    exact hL _ this
  · rw [if_neg h]; exact hb j hj
set_option maxHeartbeats 4000000 in
set_option maxRecDepth 100000 in
/-- whether the tape is a name -/
theorem m_PS_tapeIsName (l : Launch) (dC : Nat → ClassId) (dI : Nat → Nat → Nat) (cI cB cL cZ cR : ClassId) (h tp : Nat) (ps_repositories ps_sha ps_stock ps_intake ps_view ps_text ps_maker ps_recording ps_lastFault : Value) (tf : Nat → Int32) (tn : Nat) (sz : Nat) (htn : tn ≤ 65536) : Met l y_PS_tapeIsName ws_PS_tapeIsName ({ frames := 1, cells := 0, slots := 0, locals := 60 }) (xw_Pc dC dI [(cI, .int), (cB, .byte), (cL, .long), (cZ, .boolean), (cR, .object "PatchStore$Repository")] [.ref h] [(h, .inr (0, [.ref tp, ps_repositories, ps_sha, ps_stock, ps_intake, ps_view, ps_text, ps_maker, ps_recording, .int (nI tn), ps_lastFault])), (tp, .inl (cB, 65536, .inl tf))] sz) (va_Qi (fun (r : Int32) (_ : Unit) => flg r (tpN tf 1 tn)) (fun _ t => xw_B dC dI [(cI, .int), (cB, .byte), (cL, .long), (cZ, .boolean), (cR, .object "PatchStore$Repository")] (va_A [(h, .inr (0, [.ref tp, ps_repositories, ps_sha, ps_stock, ps_intake, ps_view, ps_text, ps_maker, ps_recording, .int (nI tn), ps_lastFault])), (tp, .inl (cB, 65536, .inl tf))] sz) [(h, .inr (0, [.ref tp, ps_repositories, ps_sha, ps_stock, ps_intake, ps_view, ps_text, ps_maker, ps_recording, .int (nI tn), ps_lastFault])), (tp, .inl (cB, 65536, .inl tf))] t) (va_A [(h, .inr (0, [.ref tp, ps_repositories, ps_sha, ps_stock, ps_intake, ps_view, ps_text, ps_maker, ps_recording, .int (nI tn), ps_lastFault])), (tp, .inl (cB, 65536, .inl tf))] sz)) 0 0 (va_A [(h, .inr (0, [.ref tp, ps_repositories, ps_sha, ps_stock, ps_intake, ps_view, ps_text, ps_maker, ps_recording, .int (nI tn), ps_lastFault])), (tp, .inl (cB, 65536, .inl tf))] sz) := by
  refine Met.ofW (cc := prog_1_method_21_code) (maxL := 1) (ret := (Option.some Jvm.ClassFile.FieldType.boolean)) (by decide) rfl ?_
  intro p e s m args below meth c s₁ B hml hv
  obtain ⟨rfl, hsz, hP, hK, hD0⟩ := hv
  have hx := B.exec
  have hb := B.bytes
  have hr := B.returns
  have hts0 := atoms_spec (ws := ws_PS_tapeIsName) B.pre
  have hts : ∀ w ∈ xg_1, w.before _ s = true := fun w h => hts0 w (List.mem_cons_of_mem _ h)
  have hown : s.vm.findClass "PatchStore" = some m.cls := findClass_of_methodNamed B.named
  have hlocks := B.notSynchronized
  subst hsz
  have hD := hD0.self (sz := s.heap.size)
  generalize hAe : va_A [(h, .inr (0, [.ref tp, ps_repositories, ps_sha, ps_stock, ps_intake, ps_view, ps_text, ps_maker, ps_recording, .int (nI tn), ps_lastFault])), (tp, .inl (cB, 65536, .inl tf))] s.heap.size = A at hD ⊢
  have hA : ∀ q : Nat, s.heap.size ≤ q → A q := fun q h => by rw [← hAe]; exact Or.inr h
  have hS : va_S A s.heap s.heap [] := va_S.rf
  have hl := lv_entry ([.ref h]) (n := 1) (Nat.le_of_ble_eq_true rfl)
  rw [lg_entry_eq]
  generalize (lg_sl ([.ref h]) ++ List.replicate (1 - (lg_sl ([.ref h])).length) Slot.unset).toArray = ls at hl ⊢
  have hl : lv_has ls 1 [(0, .ref h)] := hl
  generalize hQe : MQ _ _ _ _ _ _ _ = Q
  refine lv_aload_n hx hb d_PS_tapeIsName_0 rfl (lv_at hl 0 rfl) ?_
  refine va_get (D := (dC, dI)) (ci := 0) (v := .int (nI tn)) (C := R_PS) (T := F_PS) (N := 11) hx hb hts i_PS hown hK hP 0 rfl rfl 9 (by decide) (hts _ gw_557) (fun _ h9 => h9) rfl d_PS_tapeIsName_1 ?_
  refine lv_iconst (v := 1) hx hb d_PS_tapeIsName_4 (by decide) ?_
  refine lv_icmp_lt (tgt := 36) hx hb d_PS_tapeIsName_5 (by decide) (fun c_5 => ?_) (fun c_5 => ?_)
  · have n_5 : tn < 1 := (nI_ltI (a := tn) (b := 1) (by omega) (by omega)).mp c_5
    refine lv_iconst (v := 0) hx hb d_PS_tapeIsName_36 (by decide) ?_
    rw [← hQe]
    exact W.zret (v := 0) hx hb hr nz_b0 (fun t ht hW => ⟨⟨_, (), rfl, Or.inr ⟨rfl, fun z => absurd z.1 (by omega)⟩, by rw [ht]; exact hP, va_K.moved hW.alike hK, hD⟩, hS.F ht⟩) hS.2.2 d_PS_tapeIsName_37
  · have n_5 : 1 ≤ tn := Nat.le_of_not_lt (fun z => c_5 ((nI_ltI (a := tn) (b := 1) (by omega) (by omega)).mpr z))
    refine lv_aload_n hx hb d_PS_tapeIsName_8 rfl (lv_at hl 0 rfl) ?_
    refine va_get (D := (dC, dI)) (ci := 0) (v := .int (nI tn)) (C := R_PS) (T := F_PS) (N := 11) hx hb hts i_PS hown hK hP 0 rfl rfl 9 (by decide) (hts _ gw_557) (fun _ h9 => h9) rfl d_PS_tapeIsName_9 ?_
    refine lv_bipush (v := 64) hx hb d_PS_tapeIsName_12 (by decide) ?_
    refine lv_icmp_gt (tgt := 36) hx hb d_PS_tapeIsName_14 (by decide) (fun c_14 => ?_) (fun c_14 => ?_)
    · have n_14 : 64 < tn := (nI_ltI (a := 64) (b := tn) (by omega) (by omega)).mp c_14
      refine lv_iconst (v := 0) hx hb d_PS_tapeIsName_36 (by decide) ?_
      rw [← hQe]
      exact W.zret (v := 0) hx hb hr nz_b0 (fun t ht hW => ⟨⟨_, (), rfl, Or.inr ⟨rfl, fun z => absurd z.2.1 (by omega)⟩, by rw [ht]; exact hP, va_K.moved hW.alike hK, hD⟩, hS.F ht⟩) hS.2.2 d_PS_tapeIsName_37
    · have n_14 : tn ≤ 64 := Nat.le_of_not_lt (fun z => c_14 ((nI_ltI (a := 64) (b := tn) (by omega) (by omega)).mpr z))
      refine lv_aload_n hx hb d_PS_tapeIsName_17 rfl (lv_at hl 0 rfl) ?_
      refine va_get (D := (dC, dI)) (ci := 0) (v := .ref tp) (C := R_PS) (T := F_PS) (N := 11) hx hb hts i_PS hown hK hP 0 rfl rfl 0 (by decide) (hts _ gw_548) (fun _ h9 => h9) rfl d_PS_tapeIsName_18 ?_
      refine lv_iconst (v := 0) hx hb d_PS_tapeIsName_21 (by decide) ?_
      refine lv_topi (fun x_1 ex_1 => ?_)
      obtain rfl : x_1 = nI 0 := by rw [ex_1]; first | done | (exact rfl)
      refine lv_aload_n hx hb d_PS_tapeIsName_22 rfl (lv_at hl 0 rfl) ?_
      refine va_get (D := (dC, dI)) (ci := 0) (v := .int (nI tn)) (C := R_PS) (T := F_PS) (N := 11) hx hb hts i_PS hown hK hP 0 rfl rfl 9 (by decide) (hts _ gw_557) (fun _ h9 => h9) rfl d_PS_tapeIsName_23 ?_
      have hPc := hP.sub (ws' := [(tp, .inl (cB, 65536, .inl tf))]) [1] rfl
      have hDc := hD.sub (ws' := [(tp, .inl (cB, 65536, .inl tf))]) [1] (by decide) rfl
      have hFc := va_free (wc := [(tp, .inl (cB, 65536, .inl tf))]) hD hS hA [1] rfl
      refine va_calli (va_runS (As := [.ref tp, .int (nI 0), .int (nI tn)]) (rest := []) ⟨hx, hb, hml, hown, hts⟩ (m_Fo_isPlain l dC dI cI cB cL cZ cR tp 65536 tf 0 tn s.heap.size (by decide) (by omega)) ⟨callB_of 3 hts (xg_in gw_725) rfl rfl rfl (hts _ gw_7) (hts _ gw_723) (by decide +kernel) ⟨Nat.le_of_ble_eq_true rfl, Nat.le_of_ble_eq_true rfl⟩, hts _ gw_724⟩ ⟨xw_blind, fun U hU hW => ⟨rfl, by rw [hU], by rw [hU]; exact hPc, va_K.moved hW.alike hK, hDc.weaken (fun _ _ _ _ => trivial)⟩⟩ rfl rfl hl.1 rfl (lv_room (Nat.le_of_ble_eq_true rfl)) d_PS_tapeIsName_26 ⟨Nat.le_of_ble_eq_true rfl, Nat.le_of_ble_eq_true rfl⟩) hS (fun q _ h => hFc q h) hFc (fun rp9 u t H1 locs ht hvm hw hB hz1 hk1 hS => ?_)
      obtain ⟨hP1, hK1, hD1⟩ := hB
      rw [ht] at hP1
      obtain ⟨hP, hD⟩ := va_join (wr := [(h, .inr (0, [.ref tp, ps_repositories, ps_sha, ps_stock, ps_intake, ps_view, ps_text, ps_maker, ps_recording, .int (nI tn), ps_lastFault]))]) (w1 := [(tp, .inl (cB, 65536, .inl tf))]) hP hD [1] [0] rfl rfl (by decide) (by decide) hk1 hFc hP1 hD1
      generalize H1 = H at hP hS ⊢
      have hP : va_P (dC, dI) classes [(h, .inr (0, [.ref tp, ps_repositories, ps_sha, ps_stock, ps_intake, ps_view, ps_text, ps_maker, ps_recording, .int (nI tn), ps_lastFault])), (tp, .inl (cB, 65536, .inl tf))] H := hP
      have hD : va_D A [(h, .inr (0, [.ref tp, ps_repositories, ps_sha, ps_stock, ps_intake, ps_view, ps_text, ps_maker, ps_recording, .int (nI tn), ps_lastFault])), (tp, .inl (cB, 65536, .inl tf))] := hD
      rcases hw with ⟨rfl, hpl⟩ | ⟨rfl, hpl⟩
      · have hP : va_P (dC, dI) classes [(h, .inr (0, [.ref tp, ps_repositories, ps_sha, ps_stock, ps_intake, ps_view, ps_text, ps_maker, ps_recording, .int (nI tn), ps_lastFault])), (tp, .inl (cB, 65536, .inl tf))] H := hP
        have hD : va_D A [(h, .inr (0, [.ref tp, ps_repositories, ps_sha, ps_stock, ps_intake, ps_view, ps_text, ps_maker, ps_recording, .int (nI tn), ps_lastFault])), (tp, .inl (cB, 65536, .inl tf))] := hD
        have hpl9 := hpl
        refine lv_if_eq (tgt := 36) hx hb d_PS_tapeIsName_29 (by decide) (fun c_29 => absurd c_29 (by decide)) (fun _ => ?_)
        refine lv_iconst (v := 1) hx hb d_PS_tapeIsName_32 (by decide) ?_
        refine lv_goto (tgt := 37) hx hb d_PS_tapeIsName_33 (by decide) ?_
        rw [← hQe]
        exact W.zret (v := 1) hx hb hr nz_b1 (fun t ht hW => ⟨⟨_, (), rfl, flg.set ⟨by omega, by omega, by first | exact hpl9 | (rw [Nat.zero_add] at hpl9; exact hpl9)⟩, by rw [ht]; exact hP, va_K.moved hW.alike hK, hD⟩, hS.F ht⟩) hS.2.2 d_PS_tapeIsName_37
      · have hP : va_P (dC, dI) classes [(h, .inr (0, [.ref tp, ps_repositories, ps_sha, ps_stock, ps_intake, ps_view, ps_text, ps_maker, ps_recording, .int (nI tn), ps_lastFault])), (tp, .inl (cB, 65536, .inl tf))] H := hP
        have hD : va_D A [(h, .inr (0, [.ref tp, ps_repositories, ps_sha, ps_stock, ps_intake, ps_view, ps_text, ps_maker, ps_recording, .int (nI tn), ps_lastFault])), (tp, .inl (cB, 65536, .inl tf))] := hD
        have hpl9 := hpl
        refine lv_if_eq (tgt := 36) hx hb d_PS_tapeIsName_29 (by decide) (fun _ => ?_) (fun c_29 => absurd (by decide) c_29)
        refine lv_iconst (v := 0) hx hb d_PS_tapeIsName_36 (by decide) ?_
        rw [← hQe]
        exact W.zret (v := 0) hx hb hr nz_b0 (fun t ht hW => ⟨⟨_, (), rfl, Or.inr ⟨rfl, fun z => hpl9 (by first | exact z.2.2 | (rw [Nat.zero_add]; exact z.2.2))⟩, by rw [ht]; exact hP, va_K.moved hW.alike hK, hD⟩, hS.F ht⟩) hS.2.2 d_PS_tapeIsName_37
set_option maxHeartbeats 4000000 in
set_option maxRecDepth 100000 in
/-- what is settled comes into the set -/
theorem m_PS_takeSettled (l : Launch) (dC : Nat → ClassId) (dI : Nat → Nat → Nat) (cI cB cL cZ cR : ClassId) (hlt : xl_T l) (h rr mb : Nat) (ps_tape ps_repositories ps_sha ps_stock ps_intake ps_view ps_text ps_maker ps_recording ps_lastFault rr_digest rr_digestVersion : Value) (mw : Nat → Int64) (zi vi r0 : Int32) (tn : Nat) (sz : Nat) (hr0 : (∃ p, p < 500 ∧ r0 = nI p) ∨ r0 < 0) : xc_Met l y_PS_takeSettled ws_PS_takeSettled ({ frames := 12, cells := 2, slots := 12, locals := 300 }) (xw_Px dC dI [(cI, .int), (cB, .byte), (cL, .long), (cZ, .boolean), (cR, .object "PatchStore$Repository")] [.ref h, .ref rr, .int r0] [(h, .inr (0, [ps_tape, ps_repositories, ps_sha, ps_stock, ps_intake, ps_view, ps_text, ps_maker, ps_recording, .int (nI tn), ps_lastFault])), (rr, .inr (7, [.ref mb, rr_digest, .int zi, .int vi, rr_digestVersion])), (mb, .inl (cL, 8, .inr (.inl mw)))] sz) (xc_Q (S := ((Nat → Int64) × Int32 × Int32) × Nat) (fun v (u : ((Nat → Int64) × Int32 × Int32) × Nat) => ∃ p, p < 500 ∧ r0 = nI p ∧ v = some (.int (nI p)) ∧ tkT mw zi vi p u.1 ∧ u.2 = 0) (fun C (u : ((Nat → Int64) × Int32 × Int32) × Nat) => r0 < 0 ∧ C = "java/lang/IllegalStateException" ∧ u = ((mw, zi, vi), tn)) (fun u t => xw_B dC dI [(cI, .int), (cB, .byte), (cL, .long), (cZ, .boolean), (cR, .object "PatchStore$Repository")] (va_A [(h, .inr (0, [ps_tape, ps_repositories, ps_sha, ps_stock, ps_intake, ps_view, ps_text, ps_maker, ps_recording, .int (nI tn), ps_lastFault])), (rr, .inr (7, [.ref mb, rr_digest, .int zi, .int vi, rr_digestVersion])), (mb, .inl (cL, 8, .inr (.inl mw)))] sz) [(h, .inr (0, [ps_tape, ps_repositories, ps_sha, ps_stock, ps_intake, ps_view, ps_text, ps_maker, ps_recording, .int (nI u.2), ps_lastFault])), (rr, .inr (7, [.ref mb, rr_digest, .int u.1.2.1, .int u.1.2.2, rr_digestVersion])), (mb, .inl (cL, 8, .inr (.inl u.1.1)))] t) (va_A [(h, .inr (0, [ps_tape, ps_repositories, ps_sha, ps_stock, ps_intake, ps_view, ps_text, ps_maker, ps_recording, .int (nI tn), ps_lastFault])), (rr, .inr (7, [.ref mb, rr_digest, .int zi, .int vi, rr_digestVersion])), (mb, .inl (cL, 8, .inr (.inl mw)))] sz)) 2 12 (va_A [(h, .inr (0, [ps_tape, ps_repositories, ps_sha, ps_stock, ps_intake, ps_view, ps_text, ps_maker, ps_recording, .int (nI tn), ps_lastFault])), (rr, .inr (7, [.ref mb, rr_digest, .int zi, .int vi, rr_digestVersion])), (mb, .inl (cL, 8, .inr (.inl mw)))] sz) := by
  refine xc_ofW (cc := prog_1_method_26_code) (maxL := 3) (ret := (Option.some Jvm.ClassFile.FieldType.int)) (by decide) rfl ?_
  intro p e s m args below meth c s₁ B hml hno hv
  obtain ⟨rfl, hsz, hP, hK, hD0, hN, hTh⟩ := hv
  have htr : e.platform.stackTraces = false := hlt e B.admits
  have hx := B.exec
  have hb := B.bytes
  have hr := B.returns
  have hts0 := atoms_spec (ws := ws_PS_takeSettled) B.pre
  have hts : ∀ w ∈ xg_1, w.before _ s = true := fun w h => hts0 w (List.mem_cons_of_mem _ h)
  have hown : s.vm.findClass "PatchStore" = some m.cls := findClass_of_methodNamed B.named
  have hlocks := B.notSynchronized
  subst hsz
  have hD := hD0.self (sz := s.heap.size)
  generalize hAe : va_A [(h, .inr (0, [ps_tape, ps_repositories, ps_sha, ps_stock, ps_intake, ps_view, ps_text, ps_maker, ps_recording, .int (nI tn), ps_lastFault])), (rr, .inr (7, [.ref mb, rr_digest, .int zi, .int vi, rr_digestVersion])), (mb, .inl (cL, 8, .inr (.inl mw)))] s.heap.size = A at hD hTh ⊢
  have hA : ∀ q : Nat, s.heap.size ≤ q → A q := fun q h => by rw [← hAe]; exact Or.inr h
  have hS : va_S A s.heap s.heap [] := va_S.rf
  have hl := lv_entry ([.ref h, .ref rr, .int r0]) (n := 3) (Nat.le_of_ble_eq_true rfl)
  rw [lg_entry_eq]
  generalize (lg_sl ([.ref h, .ref rr, .int r0]) ++ List.replicate (3 - (lg_sl ([.ref h, .ref rr, .int r0])).length) Slot.unset).toArray = ls at hl ⊢
  have hl : lv_has ls 3 [(0, .ref h), (1, .ref rr), (2, .int r0)] := hl
  generalize hQe : xc_MQ _ _ _ _ _ _ _ = Q
  refine lv_iload_n hx hb d_PS_takeSettled_0 rfl (lv_at hl 2 rfl) ?_
  refine lv_if_ge (tgt := 12) hx hb d_PS_takeSettled_1 (by decide) (fun c_1 => ?_) (fun c_1 => ?_)
  · obtain ⟨pp, hpp, epp⟩ := hr0.resolve_right (fun z => (Int32.not_lt.mpr c_1) z)
    rw [epp] at hl
    refine lv_aload_n hx hb d_PS_takeSettled_12 rfl (lv_at hl 1 rfl) ?_
    refine lv_iload_n hx hb d_PS_takeSettled_13 rfl (lv_at hl 2 rfl) ?_
    have hPc := hP.sub (ws' := [(rr, .inr (7, [.ref mb, rr_digest, .int zi, .int vi, rr_digestVersion])), (mb, .inl (cL, 8, .inr (.inl mw)))]) [1, 2] rfl
    have hDc := hD.sub (ws' := [(rr, .inr (7, [.ref mb, rr_digest, .int zi, .int vi, rr_digestVersion])), (mb, .inl (cL, 8, .inr (.inl mw)))]) [1, 2] (by decide) rfl
    have hFc := va_free (wc := [(rr, .inr (7, [.ref mb, rr_digest, .int zi, .int vi, rr_digestVersion])), (mb, .inl (cL, 8, .inr (.inl mw)))]) hD hS hA [1, 2] rfl
    refine va_calli (va_runV (As := [.int (nI pp)]) (rest := []) ⟨hx, hb, hml, hown, hts⟩ (m_Re_takeI l dC dI cI cB cL cZ cR rr mb (rr_digest) (rr_digestVersion) mw zi vi pp s.heap.size hpp) (cwV 1 hts (xg_V gw_979 gw_980 gw_981 gw_12 gw_982) rfl rfl rfl (by decide +kernel) ⟨Nat.le_of_ble_eq_true rfl, Nat.le_of_ble_eq_true rfl⟩) ⟨xw_blind, va_recv hK hPc (ci := 7) (q0 := 0) rfl rfl, fun U hU hW => ⟨rfl, by rw [hU], by rw [hU]; exact hPc, va_K.moved hW.alike hK, hDc.weaken (fun _ _ _ _ => trivial)⟩⟩ rfl rfl hl.1 rfl (lv_room (Nat.le_of_ble_eq_true rfl)) d_PS_takeSettled_14 ⟨Nat.le_of_ble_eq_true rfl, Nat.le_of_ble_eq_true rfl⟩) hS (fun q _ h => hFc q h) hFc (fun rk9 uK t H1 locs ht hvm hw hB hz1 hk1 hS => ?_)
    have htk : tkT mw zi vi pp uK := hw.imp (fun z => ⟨z.1, z.2.2⟩) (fun z => ⟨z.1, z.2.2⟩)
    obtain ⟨hP1, hK1, hD1⟩ := hB
    rw [ht] at hP1
    obtain ⟨hP, hD⟩ := va_join (wr := [(h, .inr (0, [ps_tape, ps_repositories, ps_sha, ps_stock, ps_intake, ps_view, ps_text, ps_maker, ps_recording, .int (nI tn), ps_lastFault]))]) (w1 := [(rr, .inr (7, [.ref mb, rr_digest, .int uK.2.1, .int uK.2.2, rr_digestVersion])), (mb, .inl (cL, 8, .inr (.inl uK.1)))]) hP hD [1, 2] [0] rfl rfl (by decide) (by decide) hk1 hFc hP1 hD1
    generalize H1 = H at hP hS ⊢
    have hP : va_P (dC, dI) classes [(h, .inr (0, [ps_tape, ps_repositories, ps_sha, ps_stock, ps_intake, ps_view, ps_text, ps_maker, ps_recording, .int (nI tn), ps_lastFault])), (rr, .inr (7, [.ref mb, rr_digest, .int uK.2.1, .int uK.2.2, rr_digestVersion])), (mb, .inl (cL, 8, .inr (.inl uK.1)))] H := hP
    have hD : va_D A [(h, .inr (0, [ps_tape, ps_repositories, ps_sha, ps_stock, ps_intake, ps_view, ps_text, ps_maker, ps_recording, .int (nI tn), ps_lastFault])), (rr, .inr (7, [.ref mb, rr_digest, .int uK.2.1, .int uK.2.2, rr_digestVersion])), (mb, .inl (cL, 8, .inr (.inl uK.1)))] := hD
    refine lv_pop hx hb d_PS_takeSettled_17 rfl ?_
    refine lv_aload_n hx hb d_PS_takeSettled_18 rfl (lv_at hl 0 rfl) ?_
    refine lv_iconst (v := 0) hx hb d_PS_takeSettled_19 (by decide) ?_
    refine lv_topi (fun x_1 ex_1 => ?_)
    obtain rfl : x_1 = nI 0 := by rw [ex_1]; first | done | (exact rfl)
    refine va_put (D := (dC, dI)) (ci := 0) (v := .int (nI 0)) (ty := .int) (C := R_PS) (T := F_PS) (N := 11) hx hb hts i_PS t_PS t_PS_ok n_PS hown hK hP hD hS 0 rfl rfl 9 (by decide) (hts _ gw_557) (fun _ h9 => h9) rfl (by decide +kernel) rfl rfl (Nat.le_of_ble_eq_true rfl) d_PS_takeSettled_20 (fun H locs hP hD hS => ?_)
    have hP : va_P (dC, dI) classes [(h, .inr (0, [ps_tape, ps_repositories, ps_sha, ps_stock, ps_intake, ps_view, ps_text, ps_maker, ps_recording, .int (nI 0), ps_lastFault])), (rr, .inr (7, [.ref mb, rr_digest, .int uK.2.1, .int uK.2.2, rr_digestVersion])), (mb, .inl (cL, 8, .inr (.inl uK.1)))] H := hP
    have hD : va_D A [(h, .inr (0, [ps_tape, ps_repositories, ps_sha, ps_stock, ps_intake, ps_view, ps_text, ps_maker, ps_recording, .int (nI 0), ps_lastFault])), (rr, .inr (7, [.ref mb, rr_digest, .int uK.2.1, .int uK.2.2, rr_digestVersion])), (mb, .inl (cL, 8, .inr (.inl uK.1)))] := hD
    refine lv_iload_n hx hb d_PS_takeSettled_23 rfl (lv_at hl 2 rfl) ?_
    rw [← hQe]
    refine W.widen (k := 2) (n := 12) (Nat.le_of_ble_eq_true rfl) (Nat.le_of_ble_eq_true rfl) ?_
    exact xc_ret (W.iret (v := nI pp) hx hb hr (fun t ht hW => ⟨Or.inl ⟨_, (uK, 0), rfl, ⟨pp, hpp, epp, rfl, htk, rfl⟩, (by rw [ht]; exact hP), va_K.moved hW.alike hK, hD⟩, hS.F ht⟩) hS.2.2 d_PS_takeSettled_24)
  · rw [← hQe]
    refine W.widen (k := 1) (n := 6) (Nat.le_of_ble_eq_true rfl) (Nat.le_of_ble_eq_true rfl) ?_
    refine xc_thrownew (A := A) (own := "PatchStore") (C := "java/lang/IllegalStateException") (names := ["java/lang/RuntimeException", "java/lang/Exception"]) (i1 := 80) (i2 := 82) hx hb hml hl.1 hown hlocks hno htr (by decide +kernel) (by decide +kernel) (tw_PS_80 hts hN) (tr_PS_80) (ti_PS_80) (hTh.1.kept (fun a h1 h2 => hS.2.1 a h1 h2)) d_PS_takeSettled_4 d_PS_takeSettled_7 d_PS_takeSettled_8 d_PS_takeSettled_11 (Nat.le_of_ble_eq_true rfl) (Nat.le_of_ble_eq_true rfl) (Nat.le_of_ble_eq_true rfl) (Nat.le_of_ble_eq_true rfl) (fun x9 t9 H9 e1 e2 e3 hW9 hex => ⟨Or.inr ⟨x9, "java/lang/IllegalStateException", ((mw, zi, vi), tn), rfl, ⟨Int32.not_le.mp c_1, rfl, rfl⟩, hex, (by rw [e1]; exact hP.kept (fun k q hq => e3 q.1 ((hP k q hq).lt))), va_K.moved hW9.alike hK, hD⟩, (by rw [e1]; exact Nat.le_trans hS.1 e2), fun q h1 h2 => by rw [e1]; exact (e3 q (Nat.lt_of_lt_of_le h1 hS.1)).trans (hS.2.1 q h1 h2)⟩) hS.2.2
