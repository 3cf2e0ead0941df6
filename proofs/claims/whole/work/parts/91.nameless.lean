/-! 91.nameless.lean.txt -/
/-- those of the first i that are so -/
def ftk (g : Nat → Bool) (L : List Nat) (i : Nat) : List Nat := (L.take i).filter g
theorem ftk_0 (g : Nat → Bool) (L : List Nat) : ftk g L 0 = [] := rfl
theorem ftk_step (g : Nat → Bool) {L : List Nat} {i : Nat} (h : i < L.length) : ftk g L (i + 1) = ftk g L i ++ (if g (L.getD i 0) = true then [L.getD i 0] else []) := by
  unfold ftk
  have e : L.getD i 0 = L[i] := by
    rw [List.getD_eq_getElem?_getD, List.getElem?_eq_getElem h]; rfl
  rw [List.take_succ_eq_append_getElem h, List.filter_append, e]
  congr 1
  by_cases z : g L[i] = true
  · rw [if_pos z, List.filter_cons_of_pos z]; rfl
  · rw [if_neg z, List.filter_cons_of_neg z]; rfl
theorem ftk_le (g : Nat → Bool) (L : List Nat) (i : Nat) : (ftk g L i).length ≤ i := Nat.le_trans (List.length_filter_le _ _) (by rw [List.length_take]; exact Nat.min_le_left _ _)
theorem ftk_all (g : Nat → Bool) (L : List Nat) : ftk g L L.length = L.filter g := by
  unfold ftk
  rw [List.take_length]
def ftN (g : Nat → Bool) (L : List Nat) (i : Nat) : Nat := (ftk g L i).length
theorem ftN_yes {g : Nat → Bool} {L : List Nat} {i : Nat} (h : i < L.length) (hg : g (L.getD i 0) = true) : ftN g L i + 1 = ftN g L (i + 1) := by
  unfold ftN
  rw [ftk_step g h, if_pos hg, List.length_append]; rfl
theorem ftN_no {g : Nat → Bool} {L : List Nat} {i : Nat} (h : i < L.length) (hg : ¬ g (L.getD i 0) = true) : ftN g L i = ftN g L (i + 1) := by
  unfold ftN
  rw [ftk_step g h, if_neg hg, List.append_nil]
theorem ftk_yes {g : Nat → Bool} {L : List Nat} {i : Nat} {A : Nat → Int32} (h : i < L.length) (hg : g (L.getD i 0) = true) (ha : arrL A (ftk g L i)) : arrL (upd A (ftN g L i) (nI (L.getD i 0))) (ftk g L (i + 1)) := by
  rw [ftk_step g h, if_pos hg]
  exact ha.push _
theorem ftk_no {g : Nat → Bool} {L : List Nat} {i : Nat} {A : Nat → Int32} (h : i < L.length) (hg : ¬ g (L.getD i 0) = true) (ha : arrL A (ftk g L i)) : arrL A (ftk g L (i + 1)) := by
  rw [ftk_step g h, if_neg hg, List.append_nil]
  exact ha
theorem getD_mem {L : List Nat} {i : Nat} (h : i < L.length) : L.getD i 0 ∈ L := by
  rw [List.getD_eq_getElem?_getD, List.getElem?_eq_getElem h]
  exact List.getElem_mem h
/-- the file has a naming -/
def hasN (S : Stk) (NM : List Nat) (y : Nat) : Bool := decide (0 < nOf S y NM)
theorem hasN_iff {S : Stk} {NM : List Nat} {y : Nat} : hasN S NM y = true ↔ 0 < nOf S y NM := decide_eq_true_iff
set_option maxHeartbeats 4000000 in
set_option maxRecDepth 100000 in
/-- the nameless files are left out -/
theorem m_Vw_leaveOut (l : Launch) (dC : Nat → ClassId) (dI : Nat → Nat → Nat) (cI cB cL cZ cR : ClassId) (h vfA voA : Nat) (vw_namings vw_namingTotal vw_stock vw_changes vw_loaded vw_version vw_over vw_round vw_heads vw_nexts vw_sharing : Value) (S : Stk) (vf vo : Nat → Int32) (FL NM : List Nat) (sz : Nat) (hA1 : arrL vf FL) (hA3 : ∀ y, y < 200 → vo y = nI (nOf S y NM)) (hFl : ∀ y, y ∈ FL → y < 200) (hF2 : FL.length ≤ 200) (hN2 : NM.length ≤ 16800) : Met l y_Vw_leaveOutNameless ws_Vw_leaveOutNameless ({ frames := 0, cells := 0, slots := 0, locals := 0 }) (xw_Pc dC dI [(cI, .int), (cB, .byte), (cL, .long), (cZ, .boolean), (cR, .object "PatchStore$Repository")] [.ref h] [(h, .inr (11, [.ref vfA, .ref voA, vw_namings, .int (nI FL.length), vw_namingTotal, vw_stock, vw_changes, vw_loaded, vw_version, vw_over, vw_round, vw_heads, vw_nexts, vw_sharing])), (vfA, .inl (cI, 200, .inl vf)), (voA, .inl (cI, 200, .inl vo))] sz) (va_Qv (fun u : Nat → Int32 => arrL u (FL.filter (hasN S NM))) (fun u t => xw_B dC dI [(cI, .int), (cB, .byte), (cL, .long), (cZ, .boolean), (cR, .object "PatchStore$Repository")] (va_A [(h, .inr (11, [.ref vfA, .ref voA, vw_namings, .int (nI FL.length), vw_namingTotal, vw_stock, vw_changes, vw_loaded, vw_version, vw_over, vw_round, vw_heads, vw_nexts, vw_sharing])), (vfA, .inl (cI, 200, .inl vf)), (voA, .inl (cI, 200, .inl vo))] sz) [(h, .inr (11, [.ref vfA, .ref voA, vw_namings, .int (nI (FL.filter (hasN S NM)).length), vw_namingTotal, vw_stock, vw_changes, vw_loaded, vw_version, vw_over, vw_round, vw_heads, vw_nexts, vw_sharing])), (vfA, .inl (cI, 200, .inl u)), (voA, .inl (cI, 200, .inl vo))] t) (va_A [(h, .inr (11, [.ref vfA, .ref voA, vw_namings, .int (nI FL.length), vw_namingTotal, vw_stock, vw_changes, vw_loaded, vw_version, vw_over, vw_round, vw_heads, vw_nexts, vw_sharing])), (vfA, .inl (cI, 200, .inl vf)), (voA, .inl (cI, 200, .inl vo))] sz)) 0 0 (va_A [(h, .inr (11, [.ref vfA, .ref voA, vw_namings, .int (nI FL.length), vw_namingTotal, vw_stock, vw_changes, vw_loaded, vw_version, vw_over, vw_round, vw_heads, vw_nexts, vw_sharing])), (vfA, .inl (cI, 200, .inl vf)), (voA, .inl (cI, 200, .inl vo))] sz) := by
  refine Met.ofW (cc := prog_12_method_5_code) (maxL := 3) (ret := none) (by decide) rfl ?_
  intro p e s m args below meth c s₁ B hml hv
  obtain ⟨rfl, hsz, hP, hK, hD0⟩ := hv
  have hx := B.exec
  have hb := B.bytes
  have hr := B.returns
  have hts0 := atoms_spec (ws := ws_Vw_leaveOutNameless) B.pre
  have hts : ∀ w ∈ xg_1, w.before _ s = true := fun w h => hts0 w (List.mem_cons_of_mem _ h)
  have hown : s.vm.findClass "PatchStore$View" = some m.cls := findClass_of_methodNamed B.named
  have hlocks := B.notSynchronized
  subst hsz
  have hD := hD0.self (sz := s.heap.size)
  generalize hAe : va_A [(h, .inr (11, [.ref vfA, .ref voA, vw_namings, .int (nI FL.length), vw_namingTotal, vw_stock, vw_changes, vw_loaded, vw_version, vw_over, vw_round, vw_heads, vw_nexts, vw_sharing])), (vfA, .inl (cI, 200, .inl vf)), (voA, .inl (cI, 200, .inl vo))] s.heap.size = A at hD ⊢
  have hA : ∀ q : Nat, s.heap.size ≤ q → A q := fun q h => by rw [← hAe]; exact Or.inr h
  have hS : va_S A s.heap s.heap [] := va_S.rf
  have hl := lv_entry ([.ref h]) (n := 3) (Nat.le_of_ble_eq_true rfl)
  rw [lg_entry_eq]
  generalize (lg_sl ([.ref h]) ++ List.replicate (3 - (lg_sl ([.ref h])).length) Slot.unset).toArray = ls at hl ⊢
  have hl : lv_has ls 3 [(0, .ref h)] := hl
  generalize hQe : MQ _ _ _ _ _ _ _ = Q
  refine lv_iconst (v := 0) hx hb d_Vw_leaveOutNameless_0 (by decide) ?_
  refine lv_istore_n (lv' := [(1, .int 0), (0, .ref h)]) hx hb d_Vw_leaveOutNameless_1 rfl hl (by decide) rfl (fun ls hl => ?_)
  refine lv_iconst (v := 0) hx hb d_Vw_leaveOutNameless_2 (by decide) ?_
  refine lv_istore_n (lv' := [(2, .int 0), (1, .int 0), (0, .ref h)]) hx hb d_Vw_leaveOutNameless_3 rfl hl (by decide) rfl (fun ls hl => ?_)
  have loop_4 : ∀ (n9 : Nat) (i : Nat) (vfu : Nat → Int32) (H : Heap) (locs : List Loc) (ls : Array Slot), FL.length - i < n9 → (i ≤ FL.length) → (arrL vfu (ftk (hasN S NM) FL i)) → (∀ q, i ≤ q → q < FL.length → vfu q = vf q) → va_P (dC, dI) classes [(h, .inr (11, [.ref vfA, .ref voA, vw_namings, .int (nI FL.length), vw_namingTotal, vw_stock, vw_changes, vw_loaded, vw_version, vw_over, vw_round, vw_heads, vw_nexts, vw_sharing])), (vfA, .inl (cI, 200, .inl vfu)), (voA, .inl (cI, 200, .inl vo))] H → va_D A [(h, .inr (11, [.ref vfA, .ref voA, vw_namings, .int (nI FL.length), vw_namingTotal, vw_stock, vw_changes, vw_loaded, vw_version, vw_over, vw_round, vw_heads, vw_nexts, vw_sharing])), (vfA, .inl (cI, 200, .inl vfu)), (voA, .inl (cI, 200, .inl vo))] → va_S A s.heap H locs → lv_has ls 3 [(0, .ref h), (1, .int (nI (ftN (hasN S NM) FL i))), (2, .int (nI i))] → W p l e (headSpec ws_Vw_leaveOutNameless ({ frames := 0, cells := 0, slots := 0, locals := 0 })).room s m ([.ref h] : List Value).toArray below meth c H locs 0 0 Q (F0 m 4 ls []) := by
    intro n9
    induction n9 with
    | zero => intro i vfu H locs ls hm; exact absurd hm (Nat.not_lt_zero _)
    | succ n9 ih_4 =>
      intro i vfu H locs ls hm hi ha1 ha2 hP hD hS hl
      have hfk : ftN (hasN S NM) FL i ≤ i := ftk_le _ _ _
      refine lv_iload_n hx hb d_Vw_leaveOutNameless_4 rfl (lv_at hl 2 rfl) ?_
      refine lv_aload_n hx hb d_Vw_leaveOutNameless_5 rfl (lv_at hl 0 rfl) ?_
      refine va_get (D := (dC, dI)) (ci := 11) (v := .int (nI FL.length)) (C := R_Vw) (T := F_Vw) (N := 14) hx hb hts i_Vw hown hK hP 0 rfl rfl 3 (by decide) (hts _ gw_326) (fun _ h9 => h9) rfl d_Vw_leaveOutNameless_6 ?_
      refine lv_icmp_ge (tgt := 47) hx hb d_Vw_leaveOutNameless_9 (by decide) (fun c_9 => ?_) (fun c_9 => ?_)
      · have n_9 : FL.length ≤ i := (nI_leI (a := FL.length) (b := i) (by omega) (by omega)).mp c_9
        refine lv_aload_n hx hb d_Vw_leaveOutNameless_47 rfl (lv_at hl 0 rfl) ?_
        refine lv_iload_n hx hb d_Vw_leaveOutNameless_48 rfl (lv_at hl 1 rfl) ?_
        refine va_put (D := (dC, dI)) (ci := 11) (v := .int (nI (ftN (hasN S NM) FL i))) (ty := .int) (C := R_Vw) (T := F_Vw) (N := 14) hx hb hts i_Vw t_Vw t_Vw_ok n_Vw hown hK hP hD hS 0 rfl rfl 3 (by decide) (hts _ gw_326) (fun _ h9 => h9) rfl (by decide +kernel) rfl rfl (Nat.le_of_ble_eq_true rfl) d_Vw_leaveOutNameless_49 (fun H locs hP hD hS => ?_)
        have hP : va_P (dC, dI) classes [(h, .inr (11, [.ref vfA, .ref voA, vw_namings, .int (nI (ftN (hasN S NM) FL i)), vw_namingTotal, vw_stock, vw_changes, vw_loaded, vw_version, vw_over, vw_round, vw_heads, vw_nexts, vw_sharing])), (vfA, .inl (cI, 200, .inl vfu)), (voA, .inl (cI, 200, .inl vo))] H := hP
        have hD : va_D A [(h, .inr (11, [.ref vfA, .ref voA, vw_namings, .int (nI (ftN (hasN S NM) FL i)), vw_namingTotal, vw_stock, vw_changes, vw_loaded, vw_version, vw_over, vw_round, vw_heads, vw_nexts, vw_sharing])), (vfA, .inl (cI, 200, .inl vfu)), (voA, .inl (cI, 200, .inl vo))] := hD
        have hiT : i = FL.length := by omega
        rw [hiT] at ha1 hP hD
        rw [ftk_all] at ha1
        rw [show ftN (hasN S NM) FL FL.length = (FL.filter (hasN S NM)).length from congrArg List.length (ftk_all _ _)] at hP hD
        rw [← hQe]
        exact W.vret hx hb hr (fun t ht hW => ⟨⟨vfu, rfl, ha1, by rw [ht]; exact hP, va_K.moved hW.alike hK, hD⟩, hS.F ht⟩) hS.2.2 d_Vw_leaveOutNameless_52
      · have n_9 : i < FL.length := Nat.lt_of_not_le (fun z => c_9 ((nI_leI (a := FL.length) (b := i) (by omega) (by omega)).mpr z))
        have hy2 := hFl _ (getD_mem n_9)
        have hno := nOf_le S (FL.getD i 0) NM
        refine lv_aload_n hx hb d_Vw_leaveOutNameless_12 rfl (lv_at hl 0 rfl) ?_
        refine va_get (D := (dC, dI)) (ci := 11) (v := .ref voA) (C := R_Vw) (T := F_Vw) (N := 14) hx hb hts i_Vw hown hK hP 0 rfl rfl 1 (by decide) (hts _ gw_321) (fun _ h9 => h9) rfl d_Vw_leaveOutNameless_13 ?_
        refine lv_aload_n hx hb d_Vw_leaveOutNameless_16 rfl (lv_at hl 0 rfl) ?_
        refine va_get (D := (dC, dI)) (ci := 11) (v := .ref vfA) (C := R_Vw) (T := F_Vw) (N := 14) hx hb hts i_Vw hown hK hP 0 rfl rfl 0 (by decide) (hts _ gw_319) (fun _ h9 => h9) rfl d_Vw_leaveOutNameless_17 ?_
        refine lv_iload_n hx hb d_Vw_leaveOutNameless_20 rfl (lv_at hl 2 rfl) ?_
        refine va_iald hx hb hK hP 1 0 rfl rfl (vp_in_nI (by omega) (by omega)) d_Vw_leaveOutNameless_21 ?_
        rw [show (nI i).toNatClampNeg = i from nI_clamp (by omega)]
        refine lv_topi (fun x_1 ex_1 => ?_)
        obtain rfl : x_1 = nI (FL.getD i 0) := by rw [ex_1]; first | done | (rw [ha2 i (Nat.le_refl _) n_9]; exact hA1 i n_9)
        refine va_iald hx hb hK hP 2 0 rfl rfl (vp_in_nI (by omega) (by omega)) d_Vw_leaveOutNameless_22 ?_
        rw [show (nI (FL.getD i 0)).toNatClampNeg = (FL.getD i 0) from nI_clamp (by omega)]
        refine lv_topi (fun x_2 ex_2 => ?_)
        obtain rfl : x_2 = nI (nOf S (FL.getD i 0) NM) := by rw [ex_2]; first | done | (exact hA3 _ (hFl _ (getD_mem n_9)))
        refine lv_if_le (tgt := 41) hx hb d_Vw_leaveOutNameless_23 (by decide) (fun c_23 => ?_) (fun c_23 => ?_)
        · have n_23 : (nOf S (FL.getD i 0) NM) ≤ 0 := (nI_leI (a := (nOf S (FL.getD i 0) NM)) (b := 0) (by omega) (by omega)).mp c_23
          have hgy : ¬ (hasN S NM) (FL.getD i 0) = true := fun z => absurd (hasN_iff.mp z) (by omega)
          rw [show nI (ftN (hasN S NM) FL i) = nI (ftN (hasN S NM) FL (i + 1)) from congrArg nI (ftN_no n_9 hgy)] at hl
          refine lv_iinc (v := nI (i + 1)) (lv' := [(2, .int (nI (i + 1))), (0, .ref h), (1, .int (nI (ftN (hasN S NM) FL (i + 1))))]) hx hb d_Vw_leaveOutNameless_41 hl (k := 2) rfl (by exact nI_add _ _) (by decide) rfl (fun ls hl => ?_)
          refine lv_goto (tgt := 4) hx hb d_Vw_leaveOutNameless_44 (by decide) ?_
          exact ih_4 (i + 1) vfu _ _ _ (by omega) (by omega) (ftk_no n_9 hgy ha1) (fun q z1 z2 => ha2 q (by omega) z2) hP hD hS (lv_sub hl [1, 2, 0] rfl)
        · have n_23 : 0 < (nOf S (FL.getD i 0) NM) := Nat.lt_of_not_le (fun z => c_23 ((nI_leI (a := (nOf S (FL.getD i 0) NM)) (b := 0) (by omega) (by omega)).mpr z))
          have hgy : (hasN S NM) (FL.getD i 0) = true := hasN_iff.mpr n_23
          refine lv_aload_n hx hb d_Vw_leaveOutNameless_26 rfl (lv_at hl 0 rfl) ?_
          refine va_get (D := (dC, dI)) (ci := 11) (v := .ref vfA) (C := R_Vw) (T := F_Vw) (N := 14) hx hb hts i_Vw hown hK hP 0 rfl rfl 0 (by decide) (hts _ gw_319) (fun _ h9 => h9) rfl d_Vw_leaveOutNameless_27 ?_
          refine lv_iload_n hx hb d_Vw_leaveOutNameless_30 rfl (lv_at hl 1 rfl) ?_
          refine lv_aload_n hx hb d_Vw_leaveOutNameless_31 rfl (lv_at hl 0 rfl) ?_
          refine va_get (D := (dC, dI)) (ci := 11) (v := .ref vfA) (C := R_Vw) (T := F_Vw) (N := 14) hx hb hts i_Vw hown hK hP 0 rfl rfl 0 (by decide) (hts _ gw_319) (fun _ h9 => h9) rfl d_Vw_leaveOutNameless_32 ?_
          refine lv_iload_n hx hb d_Vw_leaveOutNameless_35 rfl (lv_at hl 2 rfl) ?_
          refine va_iald hx hb hK hP 1 0 rfl rfl (vp_in_nI (by omega) (by omega)) d_Vw_leaveOutNameless_36 ?_
          rw [show (nI i).toNatClampNeg = i from nI_clamp (by omega)]
          refine lv_topi (fun x_3 ex_3 => ?_)
          obtain rfl : x_3 = nI (FL.getD i 0) := by rw [ex_3]; first | done | (rw [ha2 i (Nat.le_refl _) n_9]; exact hA1 i n_9)
          refine va_iast hx hb hK hP hD hS 1 0 rfl rfl (vp_in_nI (by omega) (by omega)) d_Vw_leaveOutNameless_37 (fun H locs hP hD hS => ?_)
          rw [show (nI (ftN (hasN S NM) FL i)).toNatClampNeg = (ftN (hasN S NM) FL i) from nI_clamp (by omega)] at hP hD
          have hP : va_P (dC, dI) classes [(h, .inr (11, [.ref vfA, .ref voA, vw_namings, .int (nI FL.length), vw_namingTotal, vw_stock, vw_changes, vw_loaded, vw_version, vw_over, vw_round, vw_heads, vw_nexts, vw_sharing])), (vfA, .inl (cI, 200, .inl (upd vfu (ftN (hasN S NM) FL i) (nI (FL.getD i 0))))), (voA, .inl (cI, 200, .inl vo))] H := hP
          have hD : va_D A [(h, .inr (11, [.ref vfA, .ref voA, vw_namings, .int (nI FL.length), vw_namingTotal, vw_stock, vw_changes, vw_loaded, vw_version, vw_over, vw_round, vw_heads, vw_nexts, vw_sharing])), (vfA, .inl (cI, 200, .inl (upd vfu (ftN (hasN S NM) FL i) (nI (FL.getD i 0))))), (voA, .inl (cI, 200, .inl vo))] := hD
          refine lv_iinc (v := nI ((ftN (hasN S NM) FL i) + 1)) (lv' := [(1, .int (nI ((ftN (hasN S NM) FL i) + 1))), (0, .ref h), (2, .int (nI i))]) hx hb d_Vw_leaveOutNameless_38 hl (k := 1) rfl (by exact nI_add _ _) (by decide) rfl (fun ls hl => ?_)
          rw [show nI ((ftN (hasN S NM) FL i) + 1) = nI (ftN (hasN S NM) FL (i + 1)) from congrArg nI (ftN_yes n_9 hgy)] at hl
          refine lv_iinc (v := nI (i + 1)) (lv' := [(2, .int (nI (i + 1))), (1, .int (nI (ftN (hasN S NM) FL (i + 1)))), (0, .ref h)]) hx hb d_Vw_leaveOutNameless_41 hl (k := 2) rfl (by exact nI_add _ _) (by decide) rfl (fun ls hl => ?_)
          refine lv_goto (tgt := 4) hx hb d_Vw_leaveOutNameless_44 (by decide) ?_
          exact ih_4 (i + 1) (upd vfu (ftN (hasN S NM) FL i) (nI (FL.getD i 0))) _ _ _ (by omega) (by omega) (ftk_yes n_9 hgy ha1) (fun q z1 z2 => (upd_ne _ (by omega)).trans (ha2 q (by omega) z2)) hP hD hS (lv_sub hl [2, 1, 0] rfl)
  exact loop_4 _ 0 vf _ _ _ (Nat.lt_succ_self _) (Nat.zero_le _) (arrL.nil _) (fun _ _ _ => rfl) hP hD hS (lv_sub hl [2, 1, 0] rfl)
