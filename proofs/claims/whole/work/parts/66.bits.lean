/-! 66.bits.lean.txt -/
theorem gw_983 : (Jvm.Cond.methodLink "PatchStore$Repository" (31 : Nat) ({ cls := "PatchStore$Repository", name := "holds", desc := "(I)Z" } : Jvm.MethodName)) ∈ xg_1 := xg_s5 23 rfl rfl
def y_Re_take : MethodName := ⟨"PatchStore$Repository", "take", "(I)I"⟩
abbrev c_Re_take : Cond := (Jvm.Cond.code ({ cls := "PatchStore$Repository", name := "take", desc := "(I)I" } : Jvm.MethodName) prog_8_method_5_code (2 : Nat) (Option.some Jvm.ClassFile.FieldType.int))
abbrev ws_Re_take : List Cond := c_Re_take :: xg_1
theorem d_Re_take_0 : decode prog_8_method_5_code 0 = .ok (.aload_n 0, 1) := by decide +kernel
theorem d_Re_take_1 : decode prog_8_method_5_code 1 = .ok (.iload_n 1, 1) := by decide +kernel
theorem d_Re_take_2 : decode prog_8_method_5_code 2 = .ok (.invokevirtual 31, 3) := by decide +kernel
theorem d_Re_take_5 : decode prog_8_method_5_code 5 = .ok (.ifCond .eq 5, 3) := by decide +kernel
theorem d_Re_take_8 : decode prog_8_method_5_code 8 = .ok (.iconst 0, 1) := by decide +kernel
theorem d_Re_take_9 : decode prog_8_method_5_code 9 = .ok (.ireturn, 1) := by decide +kernel
theorem d_Re_take_10 : decode prog_8_method_5_code 10 = .ok (.aload_n 0, 1) := by decide +kernel
theorem d_Re_take_11 : decode prog_8_method_5_code 11 = .ok (.getfield 9, 3) := by decide +kernel
theorem d_Re_take_14 : decode prog_8_method_5_code 14 = .ok (.iload_n 1, 1) := by decide +kernel
theorem d_Re_take_15 : decode prog_8_method_5_code 15 = .ok (.bipush 6, 2) := by decide +kernel
theorem d_Re_take_17 : decode prog_8_method_5_code 17 = .ok (.ishr, 1) := by decide +kernel
theorem d_Re_take_18 : decode prog_8_method_5_code 18 = .ok (.dup2, 1) := by decide +kernel
theorem d_Re_take_19 : decode prog_8_method_5_code 19 = .ok (.laload, 1) := by decide +kernel
theorem d_Re_take_20 : decode prog_8_method_5_code 20 = .ok (.lconst 1, 1) := by decide +kernel
theorem d_Re_take_21 : decode prog_8_method_5_code 21 = .ok (.iload_n 1, 1) := by decide +kernel
theorem d_Re_take_22 : decode prog_8_method_5_code 22 = .ok (.bipush 63, 2) := by decide +kernel
theorem d_Re_take_24 : decode prog_8_method_5_code 24 = .ok (.iand, 1) := by decide +kernel
theorem d_Re_take_25 : decode prog_8_method_5_code 25 = .ok (.lshl, 1) := by decide +kernel
theorem d_Re_take_26 : decode prog_8_method_5_code 26 = .ok (.lor, 1) := by decide +kernel
theorem d_Re_take_27 : decode prog_8_method_5_code 27 = .ok (.lastore, 1) := by decide +kernel
theorem d_Re_take_28 : decode prog_8_method_5_code 28 = .ok (.aload_n 0, 1) := by decide +kernel
theorem d_Re_take_29 : decode prog_8_method_5_code 29 = .ok (.dup, 1) := by decide +kernel
theorem d_Re_take_30 : decode prog_8_method_5_code 30 = .ok (.getfield 35, 3) := by decide +kernel
theorem d_Re_take_33 : decode prog_8_method_5_code 33 = .ok (.iconst 1, 1) := by decide +kernel
theorem d_Re_take_34 : decode prog_8_method_5_code 34 = .ok (.iadd, 1) := by decide +kernel
theorem d_Re_take_35 : decode prog_8_method_5_code 35 = .ok (.putfield 35, 3) := by decide +kernel
theorem d_Re_take_38 : decode prog_8_method_5_code 38 = .ok (.aload_n 0, 1) := by decide +kernel
theorem d_Re_take_39 : decode prog_8_method_5_code 39 = .ok (.dup, 1) := by decide +kernel
theorem d_Re_take_40 : decode prog_8_method_5_code 40 = .ok (.getfield 38, 3) := by decide +kernel
theorem d_Re_take_43 : decode prog_8_method_5_code 43 = .ok (.iconst 1, 1) := by decide +kernel
theorem d_Re_take_44 : decode prog_8_method_5_code 44 = .ok (.iadd, 1) := by decide +kernel
theorem d_Re_take_45 : decode prog_8_method_5_code 45 = .ok (.putfield 38, 3) := by decide +kernel
theorem d_Re_take_48 : decode prog_8_method_5_code 48 = .ok (.iconst 1, 1) := by decide +kernel
theorem d_Re_take_49 : decode prog_8_method_5_code 49 = .ok (.ireturn, 1) := by decide +kernel
def y_Re_leave : MethodName := ⟨"PatchStore$Repository", "leave", "(I)V"⟩
abbrev c_Re_leave : Cond := (Jvm.Cond.code ({ cls := "PatchStore$Repository", name := "leave", desc := "(I)V" } : Jvm.MethodName) prog_8_method_7_code (2 : Nat) (Option.none : Option Jvm.ClassFile.FieldType))
abbrev ws_Re_leave : List Cond := c_Re_leave :: xg_1
theorem d_Re_leave_0 : decode prog_8_method_7_code 0 = .ok (.aload_n 0, 1) := by decide +kernel
theorem d_Re_leave_1 : decode prog_8_method_7_code 1 = .ok (.getfield 9, 3) := by decide +kernel
theorem d_Re_leave_4 : decode prog_8_method_7_code 4 = .ok (.iload_n 1, 1) := by decide +kernel
theorem d_Re_leave_5 : decode prog_8_method_7_code 5 = .ok (.bipush 6, 2) := by decide +kernel
theorem d_Re_leave_7 : decode prog_8_method_7_code 7 = .ok (.ishr, 1) := by decide +kernel
theorem d_Re_leave_8 : decode prog_8_method_7_code 8 = .ok (.dup2, 1) := by decide +kernel
theorem d_Re_leave_9 : decode prog_8_method_7_code 9 = .ok (.laload, 1) := by decide +kernel
theorem d_Re_leave_10 : decode prog_8_method_7_code 10 = .ok (.lconst 1, 1) := by decide +kernel
theorem d_Re_leave_11 : decode prog_8_method_7_code 11 = .ok (.iload_n 1, 1) := by decide +kernel
theorem d_Re_leave_12 : decode prog_8_method_7_code 12 = .ok (.bipush 63, 2) := by decide +kernel
theorem d_Re_leave_14 : decode prog_8_method_7_code 14 = .ok (.iand, 1) := by decide +kernel
theorem d_Re_leave_15 : decode prog_8_method_7_code 15 = .ok (.lshl, 1) := by decide +kernel
theorem d_Re_leave_16 : decode prog_8_method_7_code 16 = .ok (.ldc2_w 23, 3) := by decide +kernel
theorem d_Re_leave_19 : decode prog_8_method_7_code 19 = .ok (.lxor, 1) := by decide +kernel
theorem d_Re_leave_20 : decode prog_8_method_7_code 20 = .ok (.land, 1) := by decide +kernel
theorem d_Re_leave_21 : decode prog_8_method_7_code 21 = .ok (.lastore, 1) := by decide +kernel
theorem d_Re_leave_22 : decode prog_8_method_7_code 22 = .ok (.aload_n 0, 1) := by decide +kernel
theorem d_Re_leave_23 : decode prog_8_method_7_code 23 = .ok (.dup, 1) := by decide +kernel
theorem d_Re_leave_24 : decode prog_8_method_7_code 24 = .ok (.getfield 35, 3) := by decide +kernel
theorem d_Re_leave_27 : decode prog_8_method_7_code 27 = .ok (.iconst 1, 1) := by decide +kernel
theorem d_Re_leave_28 : decode prog_8_method_7_code 28 = .ok (.isub, 1) := by decide +kernel
theorem d_Re_leave_29 : decode prog_8_method_7_code 29 = .ok (.putfield 35, 3) := by decide +kernel
theorem d_Re_leave_32 : decode prog_8_method_7_code 32 = .ok (.aload_n 0, 1) := by decide +kernel
theorem d_Re_leave_33 : decode prog_8_method_7_code 33 = .ok (.dup, 1) := by decide +kernel
theorem d_Re_leave_34 : decode prog_8_method_7_code 34 = .ok (.getfield 38, 3) := by decide +kernel
theorem d_Re_leave_37 : decode prog_8_method_7_code 37 = .ok (.iconst 1, 1) := by decide +kernel
theorem d_Re_leave_38 : decode prog_8_method_7_code 38 = .ok (.iadd, 1) := by decide +kernel
theorem d_Re_leave_39 : decode prog_8_method_7_code 39 = .ok (.putfield 38, 3) := by decide +kernel
theorem d_Re_leave_42 : decode prog_8_method_7_code 42 = .ok (.return_, 1) := by decide +kernel
theorem bt_s : ∀ j, j < 64 → (((nI j).toInt64 &&& 63).toBitVec.smod 64).toNat = j := by decide +kernel
theorem bt_and1 (y : BitVec 64) : y &&& 1#64 = 0#64 ↔ y.getLsbD 0 = false := by
  constructor
  · intro h
    have := congrArg (fun z => z.getLsbD 0) h
    simpa using this
  · intro h
    apply BitVec.eq_of_getLsbD_eq
    intro i hi
    simp [BitVec.getLsbD_one]
    intro h1 h2
    subst h2
    rw [h] at h1; cases h1
theorem bt_get (x : Int64) (j : Nat) (hj : j < 64) : lg_cmp ((x >>> ((nI j).toInt64 &&& 63)) &&& 1) 0 = 0 ↔ x.toBitVec.getLsbD j = false := by
  rw [lg_cmp_eq, ← Int64.toBitVec_inj, Int64.toBitVec_and, Int64.toBitVec_shiftRight]
  show x.toBitVec.sshiftRight' _ &&& 1#64 = 0#64 ↔ _
  rw [bt_and1, BitVec.sshiftRight_eq', bt_s j hj, BitVec.getLsbD_sshiftRight]
  simp [hj]
theorem bt_one (j : Nat) (hj : j < 64) (i : Nat) : ((1 : Int64) <<< ((nI j).toInt64 &&& 63)).toBitVec.getLsbD i = decide (i = j) := by
  rw [Int64.toBitVec_shiftLeft, BitVec.shiftLeft_eq', bt_s j hj]
  show ((1#64) <<< j).getLsbD i = _
  rw [BitVec.getLsbD_shiftLeft, BitVec.getLsbD_one]
  by_cases h : i = j
  · subst h; simp [hj]
  · simp [h]; omega
theorem bt_or (x : Int64) (j : Nat) (hj : j < 64) (i : Nat) : (x ||| ((1 : Int64) <<< ((nI j).toInt64 &&& 63))).toBitVec.getLsbD i = (x.toBitVec.getLsbD i || decide (i = j)) := by
  rw [Int64.toBitVec_or, BitVec.getLsbD_or, bt_one j hj]
theorem bt_off (x : Int64) (j : Nat) (hj : j < 64) (i : Nat) (hi : i < 64) : (x &&& (((1 : Int64) <<< ((nI j).toInt64 &&& 63)) ^^^ (-1))).toBitVec.getLsbD i = (x.toBitVec.getLsbD i && !decide (i = j)) := by
  rw [Int64.toBitVec_and, BitVec.getLsbD_and, Int64.toBitVec_xor, BitVec.getLsbD_xor, bt_one j hj]
  rw [show (-1 : Int64).toBitVec = BitVec.allOnes 64 from by decide, BitVec.getLsbD_allOnes]
  simp [hi]
/-- whether n is in the set -/
def bt (mw : Nat → Int64) (n : Nat) : Bool := (mw (n / 64)).toBitVec.getLsbD (n % 64)
theorem re_bt {mw : Nat → Int64} {n : Nat} : re_bit mw n ↔ bt mw n = true := by
  unfold re_bit bt
  rw [bt_get _ _ (Nat.mod_lt _ (by decide))]
  simp
theorem re_ok_bt {mw : Nat → Int64} {n : Nat} (hn : n < 500) : re_ok mw (nI n) ↔ bt mw n = true := by
  constructor
  · rintro ⟨k, hk, e, hb⟩
    rw [(nI_eq (by omega) (by omega)).mp e]
    exact re_bt.mp hb
  · intro h
    exact ⟨n, hn, rfl, re_bt.mpr h⟩
/-- with n put in -/
def bt_in (mw : Nat → Int64) (n : Nat) : Nat → Int64 := vp_updL mw (n / 64) (mw (n / 64) ||| ((1 : Int64) <<< ((nI (n % 64)).toInt64 &&& 63)))
/-- with n taken out -/
def bt_un (mw : Nat → Int64) (n : Nat) : Nat → Int64 := vp_updL mw (n / 64) (mw (n / 64) &&& (((1 : Int64) <<< ((nI (n % 64)).toInt64 &&& 63)) ^^^ (-1)))
theorem bt_in_at (mw : Nat → Int64) (n k : Nat) : bt (bt_in mw n) k = (bt mw k || decide (k = n)) := by
  unfold bt bt_in vp_updL
  by_cases h : k / 64 = n / 64
  · rw [if_pos h, ← h, bt_or _ _ (Nat.mod_lt _ (by decide))]
    congr 1
    by_cases e : k = n
    · subst e; simp
    · have : ¬ k % 64 = n % 64 := by omega
      simp [e, this]
  · rw [if_neg h]
    have : ¬ k = n := fun e => h (by rw [e])
    simp [this]
theorem bt_un_at (mw : Nat → Int64) (n k : Nat) : bt (bt_un mw n) k = (bt mw k && !decide (k = n)) := by
  unfold bt bt_un vp_updL
  by_cases h : k / 64 = n / 64
  · rw [if_pos h, ← h, bt_off _ _ (Nat.mod_lt _ (by decide)) _ (Nat.mod_lt _ (by decide))]
    congr 1
    by_cases e : k = n
    · subst e; simp
    · have : ¬ k % 64 = n % 64 := by omega
      simp [e, this]
  · rw [if_neg h]
    have : ¬ k = n := fun e => h (by rw [e])
    simp [this]
set_option maxHeartbeats 4000000 in
set_option maxRecDepth 100000 in
/-- a patch comes into the set -/
theorem m_Re_take (l : Launch) (dC : Nat → ClassId) (dI : Nat → Nat → Nat) (cI cB cL cZ cR : ClassId) (h mb : Nat) (rr_digest rr_digestVersion : Value) (mw : Nat → Int64) (zz vv n0 : Nat) (sz : Nat) (hn0 : n0 < 500) : Met l y_Re_take ws_Re_take ({ frames := 1, cells := 0, slots := 0, locals := 60 }) (xw_Pc dC dI [(cI, .int), (cB, .byte), (cL, .long), (cZ, .boolean), (cR, .object "PatchStore$Repository")] [.ref h, .int (nI n0)] [(h, .inr (7, [.ref mb, rr_digest, .int (nI zz), .int (nI vv), rr_digestVersion])), (mb, .inl (cL, 8, .inr (.inl mw)))] sz) (va_Qi (fun (r : Int32) (u : (Nat → Int64) × Nat × Nat) => (bt mw n0 = true ∧ r = 0 ∧ u = (mw, zz, vv)) ∨ (bt mw n0 = false ∧ r = 1 ∧ u = (bt_in mw n0, zz + 1, vv + 1))) (fun u t => xw_B dC dI [(cI, .int), (cB, .byte), (cL, .long), (cZ, .boolean), (cR, .object "PatchStore$Repository")] (va_A [(h, .inr (7, [.ref mb, rr_digest, .int (nI zz), .int (nI vv), rr_digestVersion])), (mb, .inl (cL, 8, .inr (.inl mw)))] sz) [(h, .inr (7, [.ref mb, rr_digest, .int (nI u.2.1), .int (nI u.2.2), rr_digestVersion])), (mb, .inl (cL, 8, .inr (.inl u.1)))] t) (va_A [(h, .inr (7, [.ref mb, rr_digest, .int (nI zz), .int (nI vv), rr_digestVersion])), (mb, .inl (cL, 8, .inr (.inl mw)))] sz)) 0 0 (va_A [(h, .inr (7, [.ref mb, rr_digest, .int (nI zz), .int (nI vv), rr_digestVersion])), (mb, .inl (cL, 8, .inr (.inl mw)))] sz) := by
  refine Met.ofW (cc := prog_8_method_5_code) (maxL := 2) (ret := (Option.some Jvm.ClassFile.FieldType.int)) (by decide) rfl ?_
  intro p e s m args below meth c s₁ B hml hv
  obtain ⟨rfl, hsz, hP, hK, hD0⟩ := hv
  have hx := B.exec
  have hb := B.bytes
  have hr := B.returns
  have hts0 := atoms_spec (ws := ws_Re_take) B.pre
  have hts : ∀ w ∈ xg_1, w.before _ s = true := fun w h => hts0 w (List.mem_cons_of_mem _ h)
  have hown : s.vm.findClass "PatchStore$Repository" = some m.cls := findClass_of_methodNamed B.named
  have hlocks := B.notSynchronized
  subst hsz
  have hD := hD0.self (sz := s.heap.size)
  generalize hAe : va_A [(h, .inr (7, [.ref mb, rr_digest, .int (nI zz), .int (nI vv), rr_digestVersion])), (mb, .inl (cL, 8, .inr (.inl mw)))] s.heap.size = A at hD ⊢
  have hA : ∀ q : Nat, s.heap.size ≤ q → A q := fun q h => by rw [← hAe]; exact Or.inr h
  have hS : va_S A s.heap s.heap [] := va_S.rf
  have hl := lv_entry ([.ref h, .int (nI n0)]) (n := 2) (Nat.le_of_ble_eq_true rfl)
  rw [lg_entry_eq]
  generalize (lg_sl ([.ref h, .int (nI n0)]) ++ List.replicate (2 - (lg_sl ([.ref h, .int (nI n0)])).length) Slot.unset).toArray = ls at hl ⊢
  have hl : lv_has ls 2 [(0, .ref h), (1, .int (nI n0))] := hl
  refine lv_aload_n hx hb d_Re_take_0 rfl (lv_at hl 0 rfl) ?_
  refine lv_iload_n hx hb d_Re_take_1 rfl (lv_at hl 1 rfl) ?_
  have hPc := hP.sub (ws' := [(h, .inr (7, [.ref mb, rr_digest, .int (nI zz), .int (nI vv), rr_digestVersion])), (mb, .inl (cL, 8, .inr (.inl mw)))]) [0, 1] rfl
  have hDc := hD.sub (ws' := [(h, .inr (7, [.ref mb, rr_digest, .int (nI zz), .int (nI vv), rr_digestVersion])), (mb, .inl (cL, 8, .inr (.inl mw)))]) [0, 1] (by decide) rfl
  have hFc := va_free (wc := [(h, .inr (7, [.ref mb, rr_digest, .int (nI zz), .int (nI vv), rr_digestVersion])), (mb, .inl (cL, 8, .inr (.inl mw)))]) hD hS hA [0, 1] rfl
  refine va_calli (va_runV (As := [.int (nI n0)]) (rest := []) ⟨hx, hb, hml, hown, hts⟩ (m_Re_holds l dC dI cI cB cL cZ cR h mb (rr_digest) (.int (nI zz)) (.int (nI vv)) (rr_digestVersion) mw (nI n0) s.heap.size ) (cwV 1 hts (xg_V gw_983 gw_826 gw_827 gw_12 gw_828) rfl rfl rfl (by decide +kernel) ⟨Nat.le_of_ble_eq_true rfl, Nat.le_of_ble_eq_true rfl⟩) ⟨xw_blind, va_recv hK hPc (ci := 7) (q0 := 0) rfl rfl, fun U hU hW => ⟨rfl, by rw [hU], by rw [hU]; exact hPc, va_K.moved hW.alike hK, hDc.weaken (fun _ _ _ _ => trivial)⟩⟩ rfl rfl hl.1 rfl (lv_room (Nat.le_of_ble_eq_true rfl)) d_Re_take_2 ⟨Nat.le_of_ble_eq_true rfl, Nat.le_of_ble_eq_true rfl⟩) hS (fun q _ h => hFc q h) hFc (fun r9 u t H1 locs ht hvm hw hB hz1 hk1 hS => ?_)
  obtain ⟨hP1, hK1, hD1⟩ := hB
  rw [ht] at hP1
  obtain ⟨hP, hD⟩ := va_join (wr := []) (w1 := [(h, .inr (7, [.ref mb, rr_digest, .int (nI zz), .int (nI vv), rr_digestVersion])), (mb, .inl (cL, 8, .inr (.inl mw)))]) hP hD [0, 1] [] rfl rfl (by decide) (by decide) hk1 hFc hP1 hD1
  generalize H1 = H at hP hS ⊢
  have hP : va_P (dC, dI) classes [(h, .inr (7, [.ref mb, rr_digest, .int (nI zz), .int (nI vv), rr_digestVersion])), (mb, .inl (cL, 8, .inr (.inl mw)))] H := hP
  have hD : va_D A [(h, .inr (7, [.ref mb, rr_digest, .int (nI zz), .int (nI vv), rr_digestVersion])), (mb, .inl (cL, 8, .inr (.inl mw)))] := hD
  rcases hw with ⟨rfl, hh⟩ | ⟨rfl, hh⟩
  · have hP : va_P (dC, dI) classes [(h, .inr (7, [.ref mb, rr_digest, .int (nI zz), .int (nI vv), rr_digestVersion])), (mb, .inl (cL, 8, .inr (.inl mw)))] H := hP
    have hD : va_D A [(h, .inr (7, [.ref mb, rr_digest, .int (nI zz), .int (nI vv), rr_digestVersion])), (mb, .inl (cL, 8, .inr (.inl mw)))] := hD
    refine lv_if_eq (tgt := 10) hx hb d_Re_take_5 (by decide) (fun c_5 => absurd c_5 (by decide)) (fun _ => ?_)
    refine lv_iconst (v := 0) hx hb d_Re_take_8 (by decide) ?_
    exact W.iret (v := 0) hx hb hr (fun t ht hW => ⟨⟨_, (mw, zz, vv), rfl, Or.inl ⟨(re_ok_bt hn0).mp hh, rfl, rfl⟩, by rw [ht]; exact hP, va_K.moved hW.alike hK, hD⟩, hS.F ht⟩) hS.2.2 d_Re_take_9
  · have hP : va_P (dC, dI) classes [(h, .inr (7, [.ref mb, rr_digest, .int (nI zz), .int (nI vv), rr_digestVersion])), (mb, .inl (cL, 8, .inr (.inl mw)))] H := hP
    have hD : va_D A [(h, .inr (7, [.ref mb, rr_digest, .int (nI zz), .int (nI vv), rr_digestVersion])), (mb, .inl (cL, 8, .inr (.inl mw)))] := hD
    refine lv_if_eq (tgt := 10) hx hb d_Re_take_5 (by decide) (fun _ => ?_) (fun c_5 => absurd (by decide) c_5)
    refine lv_aload_n hx hb d_Re_take_10 rfl (lv_at hl 0 rfl) ?_
    refine va_get (D := (dC, dI)) (ci := 7) (v := .ref mb) (C := R_Re) (T := F_Re) (N := 5) hx hb hts i_Re hown hK hP 0 rfl rfl 0 (by decide) (hts _ gw_527) (fun _ h9 => h9) rfl d_Re_take_11 ?_
    refine lv_iload_n hx hb d_Re_take_14 rfl (lv_at hl 1 rfl) ?_
    refine lv_bipush (v := 6) hx hb d_Re_take_15 (by decide) ?_
    refine lv_ishr hx hb d_Re_take_17 ?_
    refine lv_topi (fun x_1 ex_1 => ?_)
    obtain rfl : x_1 = nI (n0 / 64) := by rw [ex_1]; first | done | (exact pk_shrN (by omega) _ 6 (by decide))
    refine lv_dup2_11 hx hb d_Re_take_18 rfl rfl ?_
    refine va_lald hx hb hK hP 1 2 rfl rfl (vp_in_nI (by omega) (by omega)) d_Re_take_19 ?_
    rw [show (nI (n0 / 64)).toNatClampNeg = (n0 / 64) from nI_clamp (by omega)]
    refine lv_lconst (v := 1) hx hb d_Re_take_20 (by decide) ?_
    refine lv_iload_n hx hb d_Re_take_21 rfl (lv_at hl 1 rfl) ?_
    refine lv_bipush (v := 63) hx hb d_Re_take_22 (by decide) ?_
    refine lv_iand hx hb d_Re_take_24 ?_
    refine lv_topi (fun x_2 ex_2 => ?_)
    obtain rfl : x_2 = nI (n0 % 64) := by rw [ex_2]; first | done | (exact pk_andN (by omega) 6 (by decide))
    refine lv_lshl hx hb d_Re_take_25 rfl ?_
    refine lv_lor hx hb d_Re_take_26 ?_
    refine va_last hx hb hK hP hD hS 1 2 rfl rfl (vp_in_nI (by omega) (by omega)) d_Re_take_27 (fun H locs hP hD hS => ?_)
    rw [show (nI (n0 / 64)).toNatClampNeg = (n0 / 64) from nI_clamp (by omega)] at hP hD
    have hP : va_P (dC, dI) classes [(h, .inr (7, [.ref mb, rr_digest, .int (nI zz), .int (nI vv), rr_digestVersion])), (mb, .inl (cL, 8, .inr (.inl (vp_updL mw (n0 / 64) ((mw (n0 / 64)) ||| (1 <<< ((nI (n0 % 64) : Int32).toInt64 &&& 63)))))))] H := hP
    have hD : va_D A [(h, .inr (7, [.ref mb, rr_digest, .int (nI zz), .int (nI vv), rr_digestVersion])), (mb, .inl (cL, 8, .inr (.inl (vp_updL mw (n0 / 64) ((mw (n0 / 64)) ||| (1 <<< ((nI (n0 % 64) : Int32).toInt64 &&& 63)))))))] := hD
    refine lv_aload_n hx hb d_Re_take_28 rfl (lv_at hl 0 rfl) ?_
    refine lv_dup hx hb d_Re_take_29 rfl ?_
    refine va_get (D := (dC, dI)) (ci := 7) (v := .int (nI zz)) (C := R_Re) (T := F_Re) (N := 5) hx hb hts i_Re hown hK hP 0 rfl rfl 2 (by decide) (hts _ gw_531) (fun _ h9 => h9) rfl d_Re_take_30 ?_
    refine lv_iconst (v := 1) hx hb d_Re_take_33 (by decide) ?_
    refine lv_iadd hx hb d_Re_take_34 ?_
    refine lv_topi (fun x_3 ex_3 => ?_)
    obtain rfl : x_3 = nI (zz + 1) := by rw [ex_3]; first | done | (exact nI_add _ _)
    refine va_put (D := (dC, dI)) (ci := 7) (v := .int (nI (zz + 1))) (ty := .int) (C := R_Re) (T := F_Re) (N := 5) hx hb hts i_Re t_Re t_Re_ok n_Re hown hK hP hD hS 0 rfl rfl 2 (by decide) (hts _ gw_531) (fun _ h9 => h9) rfl (by decide +kernel) rfl rfl (Nat.le_of_ble_eq_true rfl) d_Re_take_35 (fun H locs hP hD hS => ?_)
    have hP : va_P (dC, dI) classes [(h, .inr (7, [.ref mb, rr_digest, .int (nI (zz + 1)), .int (nI vv), rr_digestVersion])), (mb, .inl (cL, 8, .inr (.inl (vp_updL mw (n0 / 64) ((mw (n0 / 64)) ||| (1 <<< ((nI (n0 % 64) : Int32).toInt64 &&& 63)))))))] H := hP
    have hD : va_D A [(h, .inr (7, [.ref mb, rr_digest, .int (nI (zz + 1)), .int (nI vv), rr_digestVersion])), (mb, .inl (cL, 8, .inr (.inl (vp_updL mw (n0 / 64) ((mw (n0 / 64)) ||| (1 <<< ((nI (n0 % 64) : Int32).toInt64 &&& 63)))))))] := hD
    refine lv_aload_n hx hb d_Re_take_38 rfl (lv_at hl 0 rfl) ?_
    refine lv_dup hx hb d_Re_take_39 rfl ?_
    refine va_get (D := (dC, dI)) (ci := 7) (v := .int (nI vv)) (C := R_Re) (T := F_Re) (N := 5) hx hb hts i_Re hown hK hP 0 rfl rfl 3 (by decide) (hts _ gw_535) (fun _ h9 => h9) rfl d_Re_take_40 ?_
    refine lv_iconst (v := 1) hx hb d_Re_take_43 (by decide) ?_
    refine lv_iadd hx hb d_Re_take_44 ?_
    refine lv_topi (fun x_4 ex_4 => ?_)
    obtain rfl : x_4 = nI (vv + 1) := by rw [ex_4]; first | done | (exact nI_add _ _)
    refine va_put (D := (dC, dI)) (ci := 7) (v := .int (nI (vv + 1))) (ty := .int) (C := R_Re) (T := F_Re) (N := 5) hx hb hts i_Re t_Re t_Re_ok n_Re hown hK hP hD hS 0 rfl rfl 3 (by decide) (hts _ gw_535) (fun _ h9 => h9) rfl (by decide +kernel) rfl rfl (Nat.le_of_ble_eq_true rfl) d_Re_take_45 (fun H locs hP hD hS => ?_)
    have hP : va_P (dC, dI) classes [(h, .inr (7, [.ref mb, rr_digest, .int (nI (zz + 1)), .int (nI (vv + 1)), rr_digestVersion])), (mb, .inl (cL, 8, .inr (.inl (vp_updL mw (n0 / 64) ((mw (n0 / 64)) ||| (1 <<< ((nI (n0 % 64) : Int32).toInt64 &&& 63)))))))] H := hP
    have hD : va_D A [(h, .inr (7, [.ref mb, rr_digest, .int (nI (zz + 1)), .int (nI (vv + 1)), rr_digestVersion])), (mb, .inl (cL, 8, .inr (.inl (vp_updL mw (n0 / 64) ((mw (n0 / 64)) ||| (1 <<< ((nI (n0 % 64) : Int32).toInt64 &&& 63)))))))] := hD
    refine lv_iconst (v := 1) hx hb d_Re_take_48 (by decide) ?_
    exact W.iret (v := 1) hx hb hr (fun t ht hW => ⟨⟨_, (bt_in mw n0, zz + 1, vv + 1), rfl, Or.inr ⟨Bool.eq_false_iff.mpr (fun z => hh ((re_ok_bt hn0).mpr z)), rfl, rfl⟩, by rw [ht]; exact hP, va_K.moved hW.alike hK, hD⟩, hS.F ht⟩) hS.2.2 d_Re_take_49
set_option maxHeartbeats 4000000 in
set_option maxRecDepth 100000 in
/-- a patch leaves the set -/
theorem m_Re_leave (l : Launch) (dC : Nat → ClassId) (dI : Nat → Nat → Nat) (cI cB cL cZ cR : ClassId) (h mb : Nat) (rr_digest rr_digestVersion : Value) (mw : Nat → Int64) (zz vv n0 : Nat) (sz : Nat) (hn0 : n0 < 500) (hz1 : 1 ≤ zz) : Met l y_Re_leave ws_Re_leave ({ frames := 0, cells := 0, slots := 0, locals := 0 }) (xw_Pc dC dI [(cI, .int), (cB, .byte), (cL, .long), (cZ, .boolean), (cR, .object "PatchStore$Repository")] [.ref h, .int (nI n0)] [(h, .inr (7, [.ref mb, rr_digest, .int (nI zz), .int (nI vv), rr_digestVersion])), (mb, .inl (cL, 8, .inr (.inl mw)))] sz) (va_Qv (fun _ : Unit => True) (fun _ t => xw_B dC dI [(cI, .int), (cB, .byte), (cL, .long), (cZ, .boolean), (cR, .object "PatchStore$Repository")] (va_A [(h, .inr (7, [.ref mb, rr_digest, .int (nI zz), .int (nI vv), rr_digestVersion])), (mb, .inl (cL, 8, .inr (.inl mw)))] sz) [(h, .inr (7, [.ref mb, rr_digest, .int (nI (zz - 1)), .int (nI (vv + 1)), rr_digestVersion])), (mb, .inl (cL, 8, .inr (.inl (bt_un mw n0))))] t) (va_A [(h, .inr (7, [.ref mb, rr_digest, .int (nI zz), .int (nI vv), rr_digestVersion])), (mb, .inl (cL, 8, .inr (.inl mw)))] sz)) 0 0 (va_A [(h, .inr (7, [.ref mb, rr_digest, .int (nI zz), .int (nI vv), rr_digestVersion])), (mb, .inl (cL, 8, .inr (.inl mw)))] sz) := by
  refine Met.ofW (cc := prog_8_method_7_code) (maxL := 2) (ret := none) (by decide) rfl ?_
  intro p e s m args below meth c s₁ B hml hv
  obtain ⟨rfl, hsz, hP, hK, hD0⟩ := hv
  have hx := B.exec
  have hb := B.bytes
  have hr := B.returns
  have hts0 := atoms_spec (ws := ws_Re_leave) B.pre
  have hts : ∀ w ∈ xg_1, w.before _ s = true := fun w h => hts0 w (List.mem_cons_of_mem _ h)
  have hown : s.vm.findClass "PatchStore$Repository" = some m.cls := findClass_of_methodNamed B.named
  have hlocks := B.notSynchronized
  subst hsz
  have hD := hD0.self (sz := s.heap.size)
  generalize hAe : va_A [(h, .inr (7, [.ref mb, rr_digest, .int (nI zz), .int (nI vv), rr_digestVersion])), (mb, .inl (cL, 8, .inr (.inl mw)))] s.heap.size = A at hD ⊢
  have hA : ∀ q : Nat, s.heap.size ≤ q → A q := fun q h => by rw [← hAe]; exact Or.inr h
  have hS : va_S A s.heap s.heap [] := va_S.rf
  have hl := lv_entry ([.ref h, .int (nI n0)]) (n := 2) (Nat.le_of_ble_eq_true rfl)
  rw [lg_entry_eq]
  generalize (lg_sl ([.ref h, .int (nI n0)]) ++ List.replicate (2 - (lg_sl ([.ref h, .int (nI n0)])).length) Slot.unset).toArray = ls at hl ⊢
  have hl : lv_has ls 2 [(0, .ref h), (1, .int (nI n0))] := hl
  refine lv_aload_n hx hb d_Re_leave_0 rfl (lv_at hl 0 rfl) ?_
  refine va_get (D := (dC, dI)) (ci := 7) (v := .ref mb) (C := R_Re) (T := F_Re) (N := 5) hx hb hts i_Re hown hK hP 0 rfl rfl 0 (by decide) (hts _ gw_527) (fun _ h9 => h9) rfl d_Re_leave_1 ?_
  refine lv_iload_n hx hb d_Re_leave_4 rfl (lv_at hl 1 rfl) ?_
  refine lv_bipush (v := 6) hx hb d_Re_leave_5 (by decide) ?_
  refine lv_ishr hx hb d_Re_leave_7 ?_
  refine lv_topi (fun x_1 ex_1 => ?_)
  obtain rfl : x_1 = nI (n0 / 64) := by rw [ex_1]; first | done | (exact pk_shrN (by omega) _ 6 (by decide))
  refine lv_dup2_11 hx hb d_Re_leave_8 rfl rfl ?_
  refine va_lald hx hb hK hP 1 2 rfl rfl (vp_in_nI (by omega) (by omega)) d_Re_leave_9 ?_
  rw [show (nI (n0 / 64)).toNatClampNeg = (n0 / 64) from nI_clamp (by omega)]
  refine lv_lconst (v := 1) hx hb d_Re_leave_10 (by decide) ?_
  refine lv_iload_n hx hb d_Re_leave_11 rfl (lv_at hl 1 rfl) ?_
  refine lv_bipush (v := 63) hx hb d_Re_leave_12 (by decide) ?_
  refine lv_iand hx hb d_Re_leave_14 ?_
  refine lv_topi (fun x_2 ex_2 => ?_)
  obtain rfl : x_2 = nI (n0 % 64) := by rw [ex_2]; first | done | (exact pk_andN (by omega) 6 (by decide))
  refine lv_lshl hx hb d_Re_leave_15 rfl ?_
  refine lv_ldc2 (own := "PatchStore$Repository") hx hb hown (hts _ gw_866) d_Re_leave_16 ?_
  refine lv_lxor hx hb d_Re_leave_19 ?_
  refine lv_land hx hb d_Re_leave_20 ?_
  refine va_last hx hb hK hP hD hS 1 2 rfl rfl (vp_in_nI (by omega) (by omega)) d_Re_leave_21 (fun H locs hP hD hS => ?_)
  rw [show (nI (n0 / 64)).toNatClampNeg = (n0 / 64) from nI_clamp (by omega)] at hP hD
  have hP : va_P (dC, dI) classes [(h, .inr (7, [.ref mb, rr_digest, .int (nI zz), .int (nI vv), rr_digestVersion])), (mb, .inl (cL, 8, .inr (.inl (vp_updL mw (n0 / 64) ((mw (n0 / 64)) &&& ((1 <<< ((nI (n0 % 64) : Int32).toInt64 &&& 63)) ^^^ (-1)))))))] H := hP
  have hD : va_D A [(h, .inr (7, [.ref mb, rr_digest, .int (nI zz), .int (nI vv), rr_digestVersion])), (mb, .inl (cL, 8, .inr (.inl (vp_updL mw (n0 / 64) ((mw (n0 / 64)) &&& ((1 <<< ((nI (n0 % 64) : Int32).toInt64 &&& 63)) ^^^ (-1)))))))] := hD
  refine lv_aload_n hx hb d_Re_leave_22 rfl (lv_at hl 0 rfl) ?_
  refine lv_dup hx hb d_Re_leave_23 rfl ?_
  refine va_get (D := (dC, dI)) (ci := 7) (v := .int (nI zz)) (C := R_Re) (T := F_Re) (N := 5) hx hb hts i_Re hown hK hP 0 rfl rfl 2 (by decide) (hts _ gw_531) (fun _ h9 => h9) rfl d_Re_leave_24 ?_
  refine lv_iconst (v := 1) hx hb d_Re_leave_27 (by decide) ?_
  refine lv_isub hx hb d_Re_leave_28 ?_
  refine lv_topi (fun x_3 ex_3 => ?_)
  obtain rfl : x_3 = nI (zz - 1) := by rw [ex_3]; first | done | (exact nI_subN (b := 1) hz1)
  refine va_put (D := (dC, dI)) (ci := 7) (v := .int (nI (zz - 1))) (ty := .int) (C := R_Re) (T := F_Re) (N := 5) hx hb hts i_Re t_Re t_Re_ok n_Re hown hK hP hD hS 0 rfl rfl 2 (by decide) (hts _ gw_531) (fun _ h9 => h9) rfl (by decide +kernel) rfl rfl (Nat.le_of_ble_eq_true rfl) d_Re_leave_29 (fun H locs hP hD hS => ?_)
  have hP : va_P (dC, dI) classes [(h, .inr (7, [.ref mb, rr_digest, .int (nI (zz - 1)), .int (nI vv), rr_digestVersion])), (mb, .inl (cL, 8, .inr (.inl (vp_updL mw (n0 / 64) ((mw (n0 / 64)) &&& ((1 <<< ((nI (n0 % 64) : Int32).toInt64 &&& 63)) ^^^ (-1)))))))] H := hP
  have hD : va_D A [(h, .inr (7, [.ref mb, rr_digest, .int (nI (zz - 1)), .int (nI vv), rr_digestVersion])), (mb, .inl (cL, 8, .inr (.inl (vp_updL mw (n0 / 64) ((mw (n0 / 64)) &&& ((1 <<< ((nI (n0 % 64) : Int32).toInt64 &&& 63)) ^^^ (-1)))))))] := hD
  refine lv_aload_n hx hb d_Re_leave_32 rfl (lv_at hl 0 rfl) ?_
  refine lv_dup hx hb d_Re_leave_33 rfl ?_
  refine va_get (D := (dC, dI)) (ci := 7) (v := .int (nI vv)) (C := R_Re) (T := F_Re) (N := 5) hx hb hts i_Re hown hK hP 0 rfl rfl 3 (by decide) (hts _ gw_535) (fun _ h9 => h9) rfl d_Re_leave_34 ?_
  refine lv_iconst (v := 1) hx hb d_Re_leave_37 (by decide) ?_
  refine lv_iadd hx hb d_Re_leave_38 ?_
  refine lv_topi (fun x_4 ex_4 => ?_)
  obtain rfl : x_4 = nI (vv + 1) := by rw [ex_4]; first | done | (exact nI_add _ _)
  refine va_put (D := (dC, dI)) (ci := 7) (v := .int (nI (vv + 1))) (ty := .int) (C := R_Re) (T := F_Re) (N := 5) hx hb hts i_Re t_Re t_Re_ok n_Re hown hK hP hD hS 0 rfl rfl 3 (by decide) (hts _ gw_535) (fun _ h9 => h9) rfl (by decide +kernel) rfl rfl (Nat.le_of_ble_eq_true rfl) d_Re_leave_39 (fun H locs hP hD hS => ?_)
  have hP : va_P (dC, dI) classes [(h, .inr (7, [.ref mb, rr_digest, .int (nI (zz - 1)), .int (nI (vv + 1)), rr_digestVersion])), (mb, .inl (cL, 8, .inr (.inl (vp_updL mw (n0 / 64) ((mw (n0 / 64)) &&& ((1 <<< ((nI (n0 % 64) : Int32).toInt64 &&& 63)) ^^^ (-1)))))))] H := hP
  have hD : va_D A [(h, .inr (7, [.ref mb, rr_digest, .int (nI (zz - 1)), .int (nI (vv + 1)), rr_digestVersion])), (mb, .inl (cL, 8, .inr (.inl (vp_updL mw (n0 / 64) ((mw (n0 / 64)) &&& ((1 <<< ((nI (n0 % 64) : Int32).toInt64 &&& 63)) ^^^ (-1)))))))] := hD
  exact W.vret hx hb hr (fun t ht hW => ⟨⟨(), rfl, trivial, by rw [ht]; exact hP, va_K.moved hW.alike hK, hD⟩, hS.F ht⟩) hS.2.2 d_Re_leave_42
