/-! 70.itself.lean.txt -/
theorem bt_self (v : Int64) : v &&& (v ^^^ (-1)) = 0 := (lg_cmp_eq _ _).mp ((bt_sub v v).mpr (fun _ _ h => h))
theorem bt_orself (v : Int64) : v ||| v = v := by
  apply Int64.toBitVec_inj.mp
  rw [Int64.toBitVec_or, BitVec.or_self]
set_option maxHeartbeats 4000000 in
set_option maxRecDepth 100000 in
/-- a set comes into itself -/
theorem m_Re_takeAlls (l : Launch) (dC : Nat → ClassId) (dI : Nat → Nat → Nat) (cI cB cL cZ cR : ClassId) (h mb : Nat) (rr_digest rr_version rr_digestVersion : Value) (mw : Nat → Int64) (sz0 : Int32) (sz : Nat) : Met l y_Re_takeAll ws_Re_takeAll ({ frames := 1, cells := 0, slots := 0, locals := 60 }) (xw_Pc dC dI [(cI, .int), (cB, .byte), (cL, .long), (cZ, .boolean), (cR, .object "PatchStore$Repository")] [.ref h, .ref mb, .int 0] [(h, .inr (7, [.ref mb, rr_digest, .int sz0, rr_version, rr_digestVersion])), (mb, .inl (cL, 8, .inr (.inl mw)))] sz) (va_Qi (fun (r : Int32) (u : Nat → Int64) => r = 0 ∧ ∀ j, j < 8 → u j = mw j) (fun u t => xw_B dC dI [(cI, .int), (cB, .byte), (cL, .long), (cZ, .boolean), (cR, .object "PatchStore$Repository")] (va_A [(h, .inr (7, [.ref mb, rr_digest, .int sz0, rr_version, rr_digestVersion])), (mb, .inl (cL, 8, .inr (.inl mw)))] sz) [(h, .inr (7, [.ref mb, rr_digest, .int sz0, rr_version, rr_digestVersion])), (mb, .inl (cL, 8, .inr (.inl u)))] t) (va_A [(h, .inr (7, [.ref mb, rr_digest, .int sz0, rr_version, rr_digestVersion])), (mb, .inl (cL, 8, .inr (.inl mw)))] sz)) 0 0 (va_A [(h, .inr (7, [.ref mb, rr_digest, .int sz0, rr_version, rr_digestVersion])), (mb, .inl (cL, 8, .inr (.inl mw)))] sz) := by
  refine Met.ofW (cc := prog_8_method_6_code) (maxL := 5) (ret := (Option.some Jvm.ClassFile.FieldType.int)) (by decide) rfl ?_
  intro p e s m args below meth c s₁ B hml hv
  obtain ⟨rfl, hsz, hP, hK, hD0⟩ := hv
  have hx := B.exec
  have hb := B.bytes
  have hr := B.returns
  have hts0 := atoms_spec (ws := ws_Re_takeAll) B.pre
  have hts : ∀ w ∈ xg_1, w.before _ s = true := fun w h => hts0 w (List.mem_cons_of_mem _ h)
  have hown : s.vm.findClass "PatchStore$Repository" = some m.cls := findClass_of_methodNamed B.named
  have hlocks := B.notSynchronized
  subst hsz
  have hD := hD0.self (sz := s.heap.size)
  generalize hAe : va_A [(h, .inr (7, [.ref mb, rr_digest, .int sz0, rr_version, rr_digestVersion])), (mb, .inl (cL, 8, .inr (.inl mw)))] s.heap.size = A at hD ⊢
  have hA : ∀ q : Nat, s.heap.size ≤ q → A q := fun q h => by rw [← hAe]; exact Or.inr h
  have hS : va_S A s.heap s.heap [] := va_S.rf
  have hl := lv_entry ([.ref h, .ref mb, .int 0]) (n := 5) (Nat.le_of_ble_eq_true rfl)
  rw [lg_entry_eq]
  generalize (lg_sl ([.ref h, .ref mb, .int 0]) ++ List.replicate (5 - (lg_sl ([.ref h, .ref mb, .int 0])).length) Slot.unset).toArray = ls at hl ⊢
  have hl : lv_has ls 5 [(0, .ref h), (1, .ref mb), (2, .int 0)] := hl
  generalize hQe : MQ _ _ _ _ _ _ _ = Q
  refine lv_aload_n hx hb d_Re_takeAll_0 rfl (lv_at hl 0 rfl) ?_
  refine va_get (D := (dC, dI)) (ci := 7) (v := .int sz0) (C := R_Re) (T := F_Re) (N := 5) hx hb hts i_Re hown hK hP 0 rfl rfl 2 (by decide) (hts _ gw_531) (fun _ h9 => h9) rfl d_Re_takeAll_1 ?_
  refine lv_istore_n (lv' := [(3, .int sz0), (0, .ref h), (1, .ref mb), (2, .int 0)]) hx hb d_Re_takeAll_4 rfl hl (by decide) rfl (fun ls hl => ?_)
  refine lv_iconst (v := 0) hx hb d_Re_takeAll_5 (by decide) ?_
  refine lv_istore (lv' := [(4, .int 0), (3, .int sz0), (0, .ref h), (1, .ref mb), (2, .int 0)]) hx hb d_Re_takeAll_6 hl (by decide) rfl (fun ls hl => ?_)
  have loop_8 : ∀ (n9 : Nat) (i : Nat) (g9 : Nat → Int64) (H : Heap) (locs : List Loc) (ls : Array Slot), 8 - i < n9 → (i ≤ 8) → (∀ j, j < 8 → g9 j = mw j) → va_P (dC, dI) classes [(h, .inr (7, [.ref mb, rr_digest, .int sz0, rr_version, rr_digestVersion])), (mb, .inl (cL, 8, .inr (.inl g9)))] H → va_D A [(h, .inr (7, [.ref mb, rr_digest, .int sz0, rr_version, rr_digestVersion])), (mb, .inl (cL, 8, .inr (.inl g9)))] → va_S A s.heap H locs → lv_has ls 5 [(0, .ref h), (1, .ref mb), (2, .int 0), (3, .int sz0), (4, .int (nI i))] → W p l e (headSpec ws_Re_takeAll ({ frames := 1, cells := 0, slots := 0, locals := 60 })).room s m ([.ref h, .ref mb, .int 0] : List Value).toArray below meth c H locs 0 0 Q (F0 m 8 ls []) := by
    intro n9
    induction n9 with
    | zero => intro i g9 H locs ls hm; exact absurd hm (Nat.not_lt_zero _)
    | succ n9 ih_8 =>
      intro i g9 H locs ls hm hi hq hP hD hS hl
      refine lv_iload hx hb d_Re_takeAll_8 (lv_at hl 4 rfl) ?_
      refine lv_bipush (v := 8) hx hb d_Re_takeAll_10 (by decide) ?_
      refine lv_icmp_ge (tgt := 67) hx hb d_Re_takeAll_12 (by decide) (fun c_12 => ?_) (fun c_12 => ?_)
      · have n_12 : 8 ≤ i := (nI_leI (a := 8) (b := i) (by omega) (by omega)).mp c_12
        refine lv_aload_n hx hb d_Re_takeAll_67 rfl (lv_at hl 0 rfl) ?_
        refine va_get (D := (dC, dI)) (ci := 7) (v := .int sz0) (C := R_Re) (T := F_Re) (N := 5) hx hb hts i_Re hown hK hP 0 rfl rfl 2 (by decide) (hts _ gw_531) (fun _ h9 => h9) rfl d_Re_takeAll_68 ?_
        refine lv_iload_n hx hb d_Re_takeAll_71 rfl (lv_at hl 3 rfl) ?_
        refine lv_icmp_eq (tgt := 85) hx hb d_Re_takeAll_72 (by decide) (fun _ => ?_) (fun c_72 => absurd (rfl) c_72)
        refine lv_aload_n hx hb d_Re_takeAll_85 rfl (lv_at hl 0 rfl) ?_
        refine va_get (D := (dC, dI)) (ci := 7) (v := .int sz0) (C := R_Re) (T := F_Re) (N := 5) hx hb hts i_Re hown hK hP 0 rfl rfl 2 (by decide) (hts _ gw_531) (fun _ h9 => h9) rfl d_Re_takeAll_86 ?_
        refine lv_iload_n hx hb d_Re_takeAll_89 rfl (lv_at hl 3 rfl) ?_
        refine lv_isub hx hb d_Re_takeAll_90 ?_
        refine lv_topi (fun x_1 ex_1 => ?_)
        obtain rfl : x_1 = 0 := by rw [ex_1]; first | done | (exact Int32.sub_self _)
        rw [← hQe]
        exact W.iret (v := 0) hx hb hr (fun t ht hW => ⟨⟨_, g9, rfl, ⟨rfl, hq⟩, by rw [ht]; exact hP, va_K.moved hW.alike hK, hD⟩, hS.F ht⟩) hS.2.2 d_Re_takeAll_91
      · have n_12 : i < 8 := Nat.lt_of_not_le (fun z => c_12 ((nI_leI (a := 8) (b := i) (by omega) (by omega)).mpr z))
        refine lv_aload_n hx hb d_Re_takeAll_15 rfl (lv_at hl 0 rfl) ?_
        refine lv_dup hx hb d_Re_takeAll_16 rfl ?_
        refine va_get (D := (dC, dI)) (ci := 7) (v := .int sz0) (C := R_Re) (T := F_Re) (N := 5) hx hb hts i_Re hown hK hP 0 rfl rfl 2 (by decide) (hts _ gw_531) (fun _ h9 => h9) rfl d_Re_takeAll_17 ?_
        refine lv_aload_n hx hb d_Re_takeAll_20 rfl (lv_at hl 1 rfl) ?_
        refine lv_iload_n hx hb d_Re_takeAll_21 rfl (lv_at hl 2 rfl) ?_
        refine lv_iload hx hb d_Re_takeAll_22 (lv_at hl 4 rfl) ?_
        refine lv_iadd hx hb d_Re_takeAll_24 ?_
        refine lv_topi (fun x_2 ex_2 => ?_)
        obtain rfl : x_2 = nI (0 + i) := by rw [ex_2]; first | done | (exact nI_add _ _)
        refine va_lald hx hb hK hP 1 2 rfl rfl (vp_in_nI (by omega) (by omega)) d_Re_takeAll_25 ?_
        rw [show (nI (0 + i)).toNatClampNeg = (0 + i) from nI_clamp (by omega)]
        refine lv_aload_n hx hb d_Re_takeAll_26 rfl (lv_at hl 0 rfl) ?_
        refine va_get (D := (dC, dI)) (ci := 7) (v := .ref mb) (C := R_Re) (T := F_Re) (N := 5) hx hb hts i_Re hown hK hP 0 rfl rfl 0 (by decide) (hts _ gw_527) (fun _ h9 => h9) rfl d_Re_takeAll_27 ?_
        refine lv_iload hx hb d_Re_takeAll_30 (lv_at hl 4 rfl) ?_
        refine va_lald hx hb hK hP 1 2 rfl rfl (vp_in_nI (by omega) (by omega)) d_Re_takeAll_32 ?_
        rw [show (nI i).toNatClampNeg = i from nI_clamp (by omega)]
        refine lv_ldc2 (own := "PatchStore$Repository") hx hb hown (hts _ gw_866) d_Re_takeAll_33 ?_
        refine lv_lxor hx hb d_Re_takeAll_36 ?_
        refine lv_land hx hb d_Re_takeAll_37 ?_
        have hPc := hP.sub (ws' := []) [] rfl
        have hDc := hD.sub (ws' := []) [] (by decide) rfl
        have hFc := va_free (wc := []) hD hS hA [] rfl
        refine va_calli (va_runS (As := [.long ((g9 (0 + i)) &&& ((g9 i) ^^^ (-1)))]) (rest := [.int sz0, .ref h]) ⟨hx, hb, hml, hown, hts⟩ (m_Lg_bitCount l dC dI cI cB cL cZ cR ((g9 (0 + i)) &&& ((g9 i) ^^^ (-1))) H.size ) ⟨callB_of 1 hts (xg_in gw_1236) rfl rfl rfl (hts _ gw_36) (hts _ gw_1234) (by decide +kernel) ⟨Nat.le_of_ble_eq_true rfl, Nat.le_of_ble_eq_true rfl⟩, hts _ gw_1235⟩ ⟨xw_blind, fun U hU hW => ⟨rfl, by rw [hU], by rw [hU]; exact hPc, va_K.moved hW.alike hK, hDc.weaken (fun _ _ _ _ => trivial)⟩⟩ rfl rfl hl.1 rfl (lv_room (Nat.le_of_ble_eq_true rfl)) d_Re_takeAll_38 ⟨Nat.le_of_ble_eq_true rfl, Nat.le_of_ble_eq_true rfl⟩) hS (fun q _ h => hFc q h) hFc (fun r9 u t H1 locs ht hvm hw hB hz1 hk1 hS => ?_)
        obtain ⟨hP1, hK1, hD1⟩ := hB
        rw [ht] at hP1
        obtain ⟨hP, hD⟩ := va_join (wr := [(h, .inr (7, [.ref mb, rr_digest, .int sz0, rr_version, rr_digestVersion])), (mb, .inl (cL, 8, .inr (.inl g9)))]) (w1 := []) hP hD [] [0, 1] rfl rfl (by decide) (by decide) hk1 hFc hP1 hD1
        generalize H1 = H at hP hS ⊢
        have hP : va_P (dC, dI) classes [(h, .inr (7, [.ref mb, rr_digest, .int sz0, rr_version, rr_digestVersion])), (mb, .inl (cL, 8, .inr (.inl g9)))] H := hP
        have hD : va_D A [(h, .inr (7, [.ref mb, rr_digest, .int sz0, rr_version, rr_digestVersion])), (mb, .inl (cL, 8, .inr (.inl g9)))] := hD
        subst hw
        refine lv_iadd hx hb d_Re_takeAll_41 ?_
        rw [show g9 (0 + i) = g9 i from by rw [Nat.zero_add], bt_self, bc_0, Int32.add_zero]
        refine va_put (D := (dC, dI)) (ci := 7) (v := .int sz0) (ty := .int) (C := R_Re) (T := F_Re) (N := 5) hx hb hts i_Re t_Re t_Re_ok n_Re hown hK hP hD hS 0 rfl rfl 2 (by decide) (hts _ gw_531) (fun _ h9 => h9) rfl (by decide +kernel) rfl rfl (Nat.le_of_ble_eq_true rfl) d_Re_takeAll_42 (fun H locs hP hD hS => ?_)
        have hP : va_P (dC, dI) classes [(h, .inr (7, [.ref mb, rr_digest, .int sz0, rr_version, rr_digestVersion])), (mb, .inl (cL, 8, .inr (.inl g9)))] H := hP
        have hD : va_D A [(h, .inr (7, [.ref mb, rr_digest, .int sz0, rr_version, rr_digestVersion])), (mb, .inl (cL, 8, .inr (.inl g9)))] := hD
        refine lv_aload_n hx hb d_Re_takeAll_45 rfl (lv_at hl 0 rfl) ?_
        refine va_get (D := (dC, dI)) (ci := 7) (v := .ref mb) (C := R_Re) (T := F_Re) (N := 5) hx hb hts i_Re hown hK hP 0 rfl rfl 0 (by decide) (hts _ gw_527) (fun _ h9 => h9) rfl d_Re_takeAll_46 ?_
        refine lv_iload hx hb d_Re_takeAll_49 (lv_at hl 4 rfl) ?_
        refine lv_dup2_11 hx hb d_Re_takeAll_51 rfl rfl ?_
        refine va_lald hx hb hK hP 1 2 rfl rfl (vp_in_nI (by omega) (by omega)) d_Re_takeAll_52 ?_
        rw [show (nI i).toNatClampNeg = i from nI_clamp (by omega)]
        refine lv_aload_n hx hb d_Re_takeAll_53 rfl (lv_at hl 1 rfl) ?_
        refine lv_iload_n hx hb d_Re_takeAll_54 rfl (lv_at hl 2 rfl) ?_
        refine lv_iload hx hb d_Re_takeAll_55 (lv_at hl 4 rfl) ?_
        refine lv_iadd hx hb d_Re_takeAll_57 ?_
        refine lv_topi (fun x_3 ex_3 => ?_)
        obtain rfl : x_3 = nI (0 + i) := by rw [ex_3]; first | done | (exact nI_add _ _)
        refine va_lald hx hb hK hP 1 2 rfl rfl (vp_in_nI (by omega) (by omega)) d_Re_takeAll_58 ?_
        rw [show (nI (0 + i)).toNatClampNeg = (0 + i) from nI_clamp (by omega)]
        refine lv_lor hx hb d_Re_takeAll_59 ?_
        refine va_last hx hb hK hP hD hS 1 2 rfl rfl (vp_in_nI (by omega) (by omega)) d_Re_takeAll_60 (fun H locs hP hD hS => ?_)
        rw [show (nI i).toNatClampNeg = i from nI_clamp (by omega)] at hP hD
        have hP : va_P (dC, dI) classes [(h, .inr (7, [.ref mb, rr_digest, .int sz0, rr_version, rr_digestVersion])), (mb, .inl (cL, 8, .inr (.inl (vp_updL g9 i ((g9 i) ||| (g9 (0 + i)))))))] H := hP
        have hD : va_D A [(h, .inr (7, [.ref mb, rr_digest, .int sz0, rr_version, rr_digestVersion])), (mb, .inl (cL, 8, .inr (.inl (vp_updL g9 i ((g9 i) ||| (g9 (0 + i)))))))] := hD
        refine lv_iinc (v := nI (i + 1)) (lv' := [(4, .int (nI (i + 1))), (0, .ref h), (1, .ref mb), (2, .int 0), (3, .int sz0)]) hx hb d_Re_takeAll_61 hl (k := 4) rfl (by exact nI_add _ _) (by decide) rfl (fun ls hl => ?_)
        refine lv_goto (tgt := 8) hx hb d_Re_takeAll_64 (by decide) ?_
        exact ih_8 (i + 1) (vp_updL g9 i ((g9 i) ||| (g9 (0 + i)))) _ _ _ (by omega) (by omega) (fun j z => if h9 : j = i then (by subst h9; rw [updL_eq, Nat.zero_add, bt_orself]; exact hq _ z) else (updL_ne _ h9).trans (hq j z)) hP hD hS (lv_sub hl [1, 2, 3, 4, 0] rfl)
  exact loop_8 _ 0 mw _ _ _ (Nat.lt_succ_self _) (Nat.zero_le _) (fun _ _ => rfl) hP hD hS (lv_sub hl [2, 3, 4, 1, 0] rfl)
