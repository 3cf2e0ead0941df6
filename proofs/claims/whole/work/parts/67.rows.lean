/-! 67.rows.lean.txt -/
def y_Re_holdsAll : MethodName := ⟨"PatchStore$Repository", "holdsAll", "([JI)Z"⟩
abbrev c_Re_holdsAll : Cond := (Jvm.Cond.code ({ cls := "PatchStore$Repository", name := "holdsAll", desc := "([JI)Z" } : Jvm.MethodName) prog_8_method_3_code (4 : Nat) (Option.some Jvm.ClassFile.FieldType.boolean))
abbrev ws_Re_holdsAll : List Cond := c_Re_holdsAll :: xg_1
theorem d_Re_holdsAll_0 : decode prog_8_method_3_code 0 = .ok (.iconst 0, 1) := by decide +kernel
theorem d_Re_holdsAll_1 : decode prog_8_method_3_code 1 = .ok (.istore_n 3, 1) := by decide +kernel
theorem d_Re_holdsAll_2 : decode prog_8_method_3_code 2 = .ok (.iload_n 3, 1) := by decide +kernel
theorem d_Re_holdsAll_3 : decode prog_8_method_3_code 3 = .ok (.bipush 8, 2) := by decide +kernel
theorem d_Re_holdsAll_5 : decode prog_8_method_3_code 5 = .ok (.if_icmp .ge 35, 3) := by decide +kernel
theorem d_Re_holdsAll_8 : decode prog_8_method_3_code 8 = .ok (.aload_n 1, 1) := by decide +kernel
theorem d_Re_holdsAll_9 : decode prog_8_method_3_code 9 = .ok (.iload_n 2, 1) := by decide +kernel
theorem d_Re_holdsAll_10 : decode prog_8_method_3_code 10 = .ok (.bipush 8, 2) := by decide +kernel
theorem d_Re_holdsAll_12 : decode prog_8_method_3_code 12 = .ok (.imul, 1) := by decide +kernel
theorem d_Re_holdsAll_13 : decode prog_8_method_3_code 13 = .ok (.iload_n 3, 1) := by decide +kernel
theorem d_Re_holdsAll_14 : decode prog_8_method_3_code 14 = .ok (.iadd, 1) := by decide +kernel
theorem d_Re_holdsAll_15 : decode prog_8_method_3_code 15 = .ok (.laload, 1) := by decide +kernel
theorem d_Re_holdsAll_16 : decode prog_8_method_3_code 16 = .ok (.aload_n 0, 1) := by decide +kernel
theorem d_Re_holdsAll_17 : decode prog_8_method_3_code 17 = .ok (.getfield 9, 3) := by decide +kernel
theorem d_Re_holdsAll_20 : decode prog_8_method_3_code 20 = .ok (.iload_n 3, 1) := by decide +kernel
theorem d_Re_holdsAll_21 : decode prog_8_method_3_code 21 = .ok (.laload, 1) := by decide +kernel
theorem d_Re_holdsAll_22 : decode prog_8_method_3_code 22 = .ok (.ldc2_w 23, 3) := by decide +kernel
theorem d_Re_holdsAll_25 : decode prog_8_method_3_code 25 = .ok (.lxor, 1) := by decide +kernel
theorem d_Re_holdsAll_26 : decode prog_8_method_3_code 26 = .ok (.land, 1) := by decide +kernel
theorem d_Re_holdsAll_27 : decode prog_8_method_3_code 27 = .ok (.lconst 0, 1) := by decide +kernel
theorem d_Re_holdsAll_28 : decode prog_8_method_3_code 28 = .ok (.lcmp, 1) := by decide +kernel
theorem d_Re_holdsAll_29 : decode prog_8_method_3_code 29 = .ok (.ifCond .eq 5, 3) := by decide +kernel
theorem d_Re_holdsAll_32 : decode prog_8_method_3_code 32 = .ok (.iconst 0, 1) := by decide +kernel
theorem d_Re_holdsAll_33 : decode prog_8_method_3_code 33 = .ok (.ireturn, 1) := by decide +kernel
theorem d_Re_holdsAll_34 : decode prog_8_method_3_code 34 = .ok (.iinc 3 1, 3) := by decide +kernel
theorem d_Re_holdsAll_37 : decode prog_8_method_3_code 37 = .ok (.goto (-35), 3) := by decide +kernel
theorem d_Re_holdsAll_40 : decode prog_8_method_3_code 40 = .ok (.iconst 1, 1) := by decide +kernel
theorem d_Re_holdsAll_41 : decode prog_8_method_3_code 41 = .ok (.ireturn, 1) := by decide +kernel
def y_St_leans : MethodName := ⟨"PatchStore$Stock", "leans", "(II)Z"⟩
abbrev c_St_leans : Cond := (Jvm.Cond.code ({ cls := "PatchStore$Stock", name := "leans", desc := "(II)Z" } : Jvm.MethodName) prog_10_method_16_code (3 : Nat) (Option.some Jvm.ClassFile.FieldType.boolean))
abbrev ws_St_leans : List Cond := c_St_leans :: xg_1
theorem d_St_leans_0 : decode prog_10_method_16_code 0 = .ok (.aload_n 0, 1) := by decide +kernel
theorem d_St_leans_1 : decode prog_10_method_16_code 1 = .ok (.getfield 35, 3) := by decide +kernel
theorem d_St_leans_4 : decode prog_10_method_16_code 4 = .ok (.iload_n 1, 1) := by decide +kernel
theorem d_St_leans_5 : decode prog_10_method_16_code 5 = .ok (.bipush 8, 2) := by decide +kernel
theorem d_St_leans_7 : decode prog_10_method_16_code 7 = .ok (.imul, 1) := by decide +kernel
theorem d_St_leans_8 : decode prog_10_method_16_code 8 = .ok (.iload_n 2, 1) := by decide +kernel
theorem d_St_leans_9 : decode prog_10_method_16_code 9 = .ok (.bipush 6, 2) := by decide +kernel
theorem d_St_leans_11 : decode prog_10_method_16_code 11 = .ok (.ishr, 1) := by decide +kernel
theorem d_St_leans_12 : decode prog_10_method_16_code 12 = .ok (.iadd, 1) := by decide +kernel
theorem d_St_leans_13 : decode prog_10_method_16_code 13 = .ok (.laload, 1) := by decide +kernel
theorem d_St_leans_14 : decode prog_10_method_16_code 14 = .ok (.iload_n 2, 1) := by decide +kernel
theorem d_St_leans_15 : decode prog_10_method_16_code 15 = .ok (.bipush 63, 2) := by decide +kernel
theorem d_St_leans_17 : decode prog_10_method_16_code 17 = .ok (.iand, 1) := by decide +kernel
theorem d_St_leans_18 : decode prog_10_method_16_code 18 = .ok (.lshr, 1) := by decide +kernel
theorem d_St_leans_19 : decode prog_10_method_16_code 19 = .ok (.lconst 1, 1) := by decide +kernel
theorem d_St_leans_20 : decode prog_10_method_16_code 20 = .ok (.land, 1) := by decide +kernel
theorem d_St_leans_21 : decode prog_10_method_16_code 21 = .ok (.lconst 0, 1) := by decide +kernel
theorem d_St_leans_22 : decode prog_10_method_16_code 22 = .ok (.lcmp, 1) := by decide +kernel
theorem d_St_leans_23 : decode prog_10_method_16_code 23 = .ok (.ifCond .eq 7, 3) := by decide +kernel
theorem d_St_leans_26 : decode prog_10_method_16_code 26 = .ok (.iconst 1, 1) := by decide +kernel
theorem d_St_leans_27 : decode prog_10_method_16_code 27 = .ok (.goto 4, 3) := by decide +kernel
theorem d_St_leans_30 : decode prog_10_method_16_code 30 = .ok (.iconst 0, 1) := by decide +kernel
theorem d_St_leans_31 : decode prog_10_method_16_code 31 = .ok (.ireturn, 1) := by decide +kernel
/-- bit n of the row that begins at word o -/
def btr (w : Nat → Int64) (o n : Nat) : Bool := (w (o + n / 64)).toBitVec.getLsbD (n % 64)
theorem bt_sub (x y : Int64) : lg_cmp (x &&& (y ^^^ (-1))) 0 = 0 ↔ ∀ i, i < 64 → x.toBitVec.getLsbD i = true → y.toBitVec.getLsbD i = true := by
  rw [lg_cmp_eq, ← Int64.toBitVec_inj, Int64.toBitVec_and, Int64.toBitVec_xor, show (-1 : Int64).toBitVec = BitVec.allOnes 64 from by decide, show (0 : Int64).toBitVec = 0#64 from by decide]
  constructor
  · intro h i hi hx
    have this : (x.toBitVec &&& (y.toBitVec ^^^ BitVec.allOnes 64)).getLsbD i = (0#64).getLsbD i := by rw [h]
    simp only [BitVec.getLsbD_and, BitVec.getLsbD_xor, BitVec.getLsbD_allOnes, hi, decide_true, Bool.xor_true, BitVec.getLsbD_zero, hx, Bool.true_and] at this
    cases hy : y.toBitVec.getLsbD i with
    | false => rw [hy] at this; cases this
    | true => rfl
  · intro h
    apply BitVec.eq_of_getLsbD_eq
    intro i hi
    simp only [BitVec.getLsbD_and, BitVec.getLsbD_xor, BitVec.getLsbD_allOnes, hi, decide_true, Bool.xor_true, BitVec.getLsbD_zero]
    cases hx : x.toBitVec.getLsbD i with
    | false => rfl
    | true => rw [h i hi hx]; rfl
/-- every bit of the row is in the set -/
def rowIn (w mw : Nat → Int64) (o : Nat) : Prop := ∀ n, n < 512 → btr w o n = true → bt mw n = true
theorem rowIn_of {w mw : Nat → Int64} {o : Nat} : rowIn w mw o ↔ ∀ i, i < 8 → lg_cmp (w (o + i) &&& (mw i ^^^ (-1))) 0 = 0 := by
  constructor
  · intro h i hi
    rw [bt_sub]
    intro j hj hx
    have := h (64 * i + j) (by omega)
    unfold btr bt at this
    rw [show (64 * i + j) / 64 = i by omega, show (64 * i + j) % 64 = j by omega] at this
    exact this hx
  · intro h n hn hx
    exact (bt_sub _ _).mp (h (n / 64) (by omega)) (n % 64) (Nat.mod_lt _ (by decide)) hx
set_option maxHeartbeats 4000000 in
set_option maxRecDepth 100000 in
/-- whether a row is in the set -/
theorem m_Re_holdsAll (l : Launch) (dC : Nat → ClassId) (dI : Nat → Nat → Nat) (cI cB cL cZ cR : ClassId) (h mb ro : Nat) (rr_digest rr_size rr_version rr_digestVersion : Value) (mw rw9 : Nat → Int64) (pp : Nat) (sz : Nat) (hpp : pp < 500) : Met l y_Re_holdsAll ws_Re_holdsAll ({ frames := 0, cells := 0, slots := 0, locals := 0 }) (xw_Pc dC dI [(cI, .int), (cB, .byte), (cL, .long), (cZ, .boolean), (cR, .object "PatchStore$Repository")] [.ref h, .ref ro, .int (nI pp)] [(h, .inr (7, [.ref mb, rr_digest, rr_size, rr_version, rr_digestVersion])), (mb, .inl (cL, 8, .inr (.inl mw))), (ro, .inl (cL, 4000, .inr (.inl rw9)))] sz) (va_Qi (fun (r : Int32) (_ : Unit) => (r = 1 ∧ rowIn rw9 mw (pp * 8)) ∨ (r = 0 ∧ ¬ rowIn rw9 mw (pp * 8))) (fun _ t => xw_B dC dI [(cI, .int), (cB, .byte), (cL, .long), (cZ, .boolean), (cR, .object "PatchStore$Repository")] (va_A [(h, .inr (7, [.ref mb, rr_digest, rr_size, rr_version, rr_digestVersion])), (mb, .inl (cL, 8, .inr (.inl mw))), (ro, .inl (cL, 4000, .inr (.inl rw9)))] sz) [(h, .inr (7, [.ref mb, rr_digest, rr_size, rr_version, rr_digestVersion])), (mb, .inl (cL, 8, .inr (.inl mw))), (ro, .inl (cL, 4000, .inr (.inl rw9)))] t) (va_A [(h, .inr (7, [.ref mb, rr_digest, rr_size, rr_version, rr_digestVersion])), (mb, .inl (cL, 8, .inr (.inl mw))), (ro, .inl (cL, 4000, .inr (.inl rw9)))] sz)) 0 0 (va_A [(h, .inr (7, [.ref mb, rr_digest, rr_size, rr_version, rr_digestVersion])), (mb, .inl (cL, 8, .inr (.inl mw))), (ro, .inl (cL, 4000, .inr (.inl rw9)))] sz) := by
  refine Met.ofW (cc := prog_8_method_3_code) (maxL := 4) (ret := (Option.some Jvm.ClassFile.FieldType.boolean)) (by decide) rfl ?_
  intro p e s m args below meth c s₁ B hml hv
  obtain ⟨rfl, hsz, hP, hK, hD0⟩ := hv
  have hx := B.exec
  have hb := B.bytes
  have hr := B.returns
  have hts0 := atoms_spec (ws := ws_Re_holdsAll) B.pre
  have hts : ∀ w ∈ xg_1, w.before _ s = true := fun w h => hts0 w (List.mem_cons_of_mem _ h)
  have hown : s.vm.findClass "PatchStore$Repository" = some m.cls := findClass_of_methodNamed B.named
  have hlocks := B.notSynchronized
  subst hsz
  have hD := hD0.self (sz := s.heap.size)
  generalize hAe : va_A [(h, .inr (7, [.ref mb, rr_digest, rr_size, rr_version, rr_digestVersion])), (mb, .inl (cL, 8, .inr (.inl mw))), (ro, .inl (cL, 4000, .inr (.inl rw9)))] s.heap.size = A at hD ⊢
  have hA : ∀ q : Nat, s.heap.size ≤ q → A q := fun q h => by rw [← hAe]; exact Or.inr h
  have hS : va_S A s.heap s.heap [] := va_S.rf
  have hl := lv_entry ([.ref h, .ref ro, .int (nI pp)]) (n := 4) (Nat.le_of_ble_eq_true rfl)
  rw [lg_entry_eq]
  generalize (lg_sl ([.ref h, .ref ro, .int (nI pp)]) ++ List.replicate (4 - (lg_sl ([.ref h, .ref ro, .int (nI pp)])).length) Slot.unset).toArray = ls at hl ⊢
  have hl : lv_has ls 4 [(0, .ref h), (1, .ref ro), (2, .int (nI pp))] := hl
  generalize hQe : MQ _ _ _ _ _ _ _ = Q
  refine lv_iconst (v := 0) hx hb d_Re_holdsAll_0 (by decide) ?_
  refine lv_istore_n (lv' := [(3, .int 0), (0, .ref h), (1, .ref ro), (2, .int (nI pp))]) hx hb d_Re_holdsAll_1 rfl hl (by decide) rfl (fun ls hl => ?_)
  have loop_2 : ∀ (n9 : Nat) (i : Nat) (H : Heap) (locs : List Loc) (ls : Array Slot), 8 - i < n9 → (i ≤ 8) → (∀ j, j < i → lg_cmp (rw9 (pp * 8 + j) &&& (mw j ^^^ (-1))) 0 = 0) → va_P (dC, dI) classes [(h, .inr (7, [.ref mb, rr_digest, rr_size, rr_version, rr_digestVersion])), (mb, .inl (cL, 8, .inr (.inl mw))), (ro, .inl (cL, 4000, .inr (.inl rw9)))] H → va_D A [(h, .inr (7, [.ref mb, rr_digest, rr_size, rr_version, rr_digestVersion])), (mb, .inl (cL, 8, .inr (.inl mw))), (ro, .inl (cL, 4000, .inr (.inl rw9)))] → va_S A s.heap H locs → lv_has ls 4 [(0, .ref h), (1, .ref ro), (2, .int (nI pp)), (3, .int (nI i))] → W p l e (headSpec ws_Re_holdsAll ({ frames := 0, cells := 0, slots := 0, locals := 0 })).room s m ([.ref h, .ref ro, .int (nI pp)] : List Value).toArray below meth c H locs 0 0 Q (F0 m 2 ls []) := by
    intro n9
    induction n9 with
    | zero => intro i H locs ls hm; exact absurd hm (Nat.not_lt_zero _)
    | succ n9 ih_2 =>
      intro i H locs ls hm hi hq hP hD hS hl
      refine lv_iload_n hx hb d_Re_holdsAll_2 rfl (lv_at hl 3 rfl) ?_
      refine lv_bipush (v := 8) hx hb d_Re_holdsAll_3 (by decide) ?_
      refine lv_icmp_ge (tgt := 40) hx hb d_Re_holdsAll_5 (by decide) (fun c_5 => ?_) (fun c_5 => ?_)
      · have n_5 : 8 ≤ i := (nI_leI (a := 8) (b := i) (by omega) (by omega)).mp c_5
        refine lv_iconst (v := 1) hx hb d_Re_holdsAll_40 (by decide) ?_
        rw [← hQe]
        exact W.zret (v := 1) hx hb hr nz_b1 (fun t ht hW => ⟨⟨_, (), rfl, Or.inl ⟨rfl, rowIn_of.mpr (fun j z => hq j (by omega))⟩, by rw [ht]; exact hP, va_K.moved hW.alike hK, hD⟩, hS.F ht⟩) hS.2.2 d_Re_holdsAll_41
      · have n_5 : i < 8 := Nat.lt_of_not_le (fun z => c_5 ((nI_leI (a := 8) (b := i) (by omega) (by omega)).mpr z))
        refine lv_aload_n hx hb d_Re_holdsAll_8 rfl (lv_at hl 1 rfl) ?_
        refine lv_iload_n hx hb d_Re_holdsAll_9 rfl (lv_at hl 2 rfl) ?_
        refine lv_bipush (v := 8) hx hb d_Re_holdsAll_10 (by decide) ?_
        refine lv_imul hx hb d_Re_holdsAll_12 ?_
        refine lv_topi (fun x_1 ex_1 => ?_)
        obtain rfl : x_1 = nI (pp * 8) := by rw [ex_1]; first | done | (exact nI_mul _ _)
        refine lv_iload_n hx hb d_Re_holdsAll_13 rfl (lv_at hl 3 rfl) ?_
        refine lv_iadd hx hb d_Re_holdsAll_14 ?_
        refine lv_topi (fun x_2 ex_2 => ?_)
        obtain rfl : x_2 = nI ((pp * 8) + i) := by rw [ex_2]; first | done | (exact nI_add _ _)
        refine va_lald hx hb hK hP 2 2 rfl rfl (vp_in_nI (by omega) (by omega)) d_Re_holdsAll_15 ?_
        rw [show (nI ((pp * 8) + i)).toNatClampNeg = ((pp * 8) + i) from nI_clamp (by omega)]
        refine lv_aload_n hx hb d_Re_holdsAll_16 rfl (lv_at hl 0 rfl) ?_
        refine va_get (D := (dC, dI)) (ci := 7) (v := .ref mb) (C := R_Re) (T := F_Re) (N := 5) hx hb hts i_Re hown hK hP 0 rfl rfl 0 (by decide) (hts _ gw_527) (fun _ h9 => h9) rfl d_Re_holdsAll_17 ?_
        refine lv_iload_n hx hb d_Re_holdsAll_20 rfl (lv_at hl 3 rfl) ?_
        refine va_lald hx hb hK hP 1 2 rfl rfl (vp_in_nI (by omega) (by omega)) d_Re_holdsAll_21 ?_
        rw [show (nI i).toNatClampNeg = i from nI_clamp (by omega)]
        refine lv_ldc2 (own := "PatchStore$Repository") hx hb hown (hts _ gw_866) d_Re_holdsAll_22 ?_
        refine lv_lxor hx hb d_Re_holdsAll_25 ?_
        refine lv_land hx hb d_Re_holdsAll_26 ?_
        refine lv_lconst (v := 0) hx hb d_Re_holdsAll_27 (by decide) ?_
        refine W.lcmp hx hb d_Re_holdsAll_28 ?_
        refine lv_if_eq (tgt := 34) hx hb d_Re_holdsAll_29 (by decide) (fun c_29 => ?_) (fun c_29 => ?_)
        · refine lv_iinc (v := nI (i + 1)) (lv' := [(3, .int (nI (i + 1))), (0, .ref h), (1, .ref ro), (2, .int (nI pp))]) hx hb d_Re_holdsAll_34 hl (k := 3) rfl (by exact nI_add _ _) (by decide) rfl (fun ls hl => ?_)
          refine lv_goto (tgt := 2) hx hb d_Re_holdsAll_37 (by decide) ?_
          exact ih_2 (i + 1) _ _ _ (by omega) (by omega) (fun j z => if h9 : j = i then h9 ▸ c_29 else hq j (by omega)) hP hD hS (lv_sub hl [1, 2, 3, 0] rfl)
        · refine lv_iconst (v := 0) hx hb d_Re_holdsAll_32 (by decide) ?_
          rw [← hQe]
          exact W.zret (v := 0) hx hb hr nz_b0 (fun t ht hW => ⟨⟨_, (), rfl, Or.inr ⟨rfl, fun z => c_29 (rowIn_of.mp z i n_5)⟩, by rw [ht]; exact hP, va_K.moved hW.alike hK, hD⟩, hS.F ht⟩) hS.2.2 d_Re_holdsAll_33
  exact loop_2 _ 0 _ _ _ (Nat.lt_succ_self _) (Nat.zero_le _) (fun j z => absurd z (Nat.not_lt_zero _)) hP hD hS (lv_sub hl [1, 2, 3, 0] rfl)
set_option maxHeartbeats 4000000 in
set_option maxRecDepth 100000 in
/-- whether a patch leans on another -/
theorem m_St_leans (l : Launch) (dC : Nat → ClassId) (dI : Nat → Nat → Nat) (cI cB cL cZ cR : ClassId) (h loA : Nat) (sk_bytes sk_from sk_firstDependency sk_firstChange sk_dependencies sk_hashes sk_byHash sk_leantBy sk_changes sk_lines sk_patches : Value) (low : Nat → Int64) (pp qq : Nat) (sz : Nat) (hpp : pp < 500) (hqq : qq < 512) : Met l y_St_leans ws_St_leans ({ frames := 0, cells := 0, slots := 0, locals := 0 }) (xw_Pc dC dI [(cI, .int), (cB, .byte), (cL, .long), (cZ, .boolean), (cR, .object "PatchStore$Repository")] [.ref h, .int (nI pp), .int (nI qq)] [(h, .inr (9, [sk_bytes, sk_from, sk_firstDependency, sk_firstChange, sk_dependencies, sk_hashes, sk_byHash, .ref loA, sk_leantBy, sk_changes, sk_lines, sk_patches])), (loA, .inl (cL, 4000, .inr (.inl low)))] sz) (va_Qi (fun (r : Int32) (_ : Unit) => (r = 1 ∧ btr low (pp * 8) qq = true) ∨ (r = 0 ∧ btr low (pp * 8) qq = false)) (fun _ t => xw_B dC dI [(cI, .int), (cB, .byte), (cL, .long), (cZ, .boolean), (cR, .object "PatchStore$Repository")] (va_A [(h, .inr (9, [sk_bytes, sk_from, sk_firstDependency, sk_firstChange, sk_dependencies, sk_hashes, sk_byHash, .ref loA, sk_leantBy, sk_changes, sk_lines, sk_patches])), (loA, .inl (cL, 4000, .inr (.inl low)))] sz) [(h, .inr (9, [sk_bytes, sk_from, sk_firstDependency, sk_firstChange, sk_dependencies, sk_hashes, sk_byHash, .ref loA, sk_leantBy, sk_changes, sk_lines, sk_patches])), (loA, .inl (cL, 4000, .inr (.inl low)))] t) (va_A [(h, .inr (9, [sk_bytes, sk_from, sk_firstDependency, sk_firstChange, sk_dependencies, sk_hashes, sk_byHash, .ref loA, sk_leantBy, sk_changes, sk_lines, sk_patches])), (loA, .inl (cL, 4000, .inr (.inl low)))] sz)) 0 0 (va_A [(h, .inr (9, [sk_bytes, sk_from, sk_firstDependency, sk_firstChange, sk_dependencies, sk_hashes, sk_byHash, .ref loA, sk_leantBy, sk_changes, sk_lines, sk_patches])), (loA, .inl (cL, 4000, .inr (.inl low)))] sz) := by
  refine Met.ofW (cc := prog_10_method_16_code) (maxL := 3) (ret := (Option.some Jvm.ClassFile.FieldType.boolean)) (by decide) rfl ?_
  intro p e s m args below meth c s₁ B hml hv
  obtain ⟨rfl, hsz, hP, hK, hD0⟩ := hv
  have hx := B.exec
  have hb := B.bytes
  have hr := B.returns
  have hts0 := atoms_spec (ws := ws_St_leans) B.pre
  have hts : ∀ w ∈ xg_1, w.before _ s = true := fun w h => hts0 w (List.mem_cons_of_mem _ h)
  have hown : s.vm.findClass "PatchStore$Stock" = some m.cls := findClass_of_methodNamed B.named
  have hlocks := B.notSynchronized
  subst hsz
  have hD := hD0.self (sz := s.heap.size)
  generalize hAe : va_A [(h, .inr (9, [sk_bytes, sk_from, sk_firstDependency, sk_firstChange, sk_dependencies, sk_hashes, sk_byHash, .ref loA, sk_leantBy, sk_changes, sk_lines, sk_patches])), (loA, .inl (cL, 4000, .inr (.inl low)))] s.heap.size = A at hD ⊢
  have hA : ∀ q : Nat, s.heap.size ≤ q → A q := fun q h => by rw [← hAe]; exact Or.inr h
  have hS : va_S A s.heap s.heap [] := va_S.rf
  have hl := lv_entry ([.ref h, .int (nI pp), .int (nI qq)]) (n := 3) (Nat.le_of_ble_eq_true rfl)
  rw [lg_entry_eq]
  generalize (lg_sl ([.ref h, .int (nI pp), .int (nI qq)]) ++ List.replicate (3 - (lg_sl ([.ref h, .int (nI pp), .int (nI qq)])).length) Slot.unset).toArray = ls at hl ⊢
  have hl : lv_has ls 3 [(0, .ref h), (1, .int (nI pp)), (2, .int (nI qq))] := hl
  refine lv_aload_n hx hb d_St_leans_0 rfl (lv_at hl 0 rfl) ?_
  refine va_get (D := (dC, dI)) (ci := 9) (v := .ref loA) (C := R_St) (T := F_St) (N := 12) hx hb hts i_St hown hK hP 0 rfl rfl 7 (by decide) (hts _ gw_214) (fun _ h9 => h9) rfl d_St_leans_1 ?_
  refine lv_iload_n hx hb d_St_leans_4 rfl (lv_at hl 1 rfl) ?_
  refine lv_bipush (v := 8) hx hb d_St_leans_5 (by decide) ?_
  refine lv_imul hx hb d_St_leans_7 ?_
  refine lv_topi (fun x_1 ex_1 => ?_)
  obtain rfl : x_1 = nI (pp * 8) := by rw [ex_1]; first | done | (exact nI_mul _ _)
  refine lv_iload_n hx hb d_St_leans_8 rfl (lv_at hl 2 rfl) ?_
  refine lv_bipush (v := 6) hx hb d_St_leans_9 (by decide) ?_
  refine lv_ishr hx hb d_St_leans_11 ?_
  refine lv_topi (fun x_2 ex_2 => ?_)
  obtain rfl : x_2 = nI (qq / 64) := by rw [ex_2]; first | done | (exact pk_shrN (by omega) _ 6 (by decide))
  refine lv_iadd hx hb d_St_leans_12 ?_
  refine lv_topi (fun x_3 ex_3 => ?_)
  obtain rfl : x_3 = nI ((pp * 8) + (qq / 64)) := by rw [ex_3]; first | done | (exact nI_add _ _)
  refine va_lald hx hb hK hP 1 2 rfl rfl (vp_in_nI (by omega) (by omega)) d_St_leans_13 ?_
  rw [show (nI ((pp * 8) + (qq / 64))).toNatClampNeg = ((pp * 8) + (qq / 64)) from nI_clamp (by omega)]
  refine lv_iload_n hx hb d_St_leans_14 rfl (lv_at hl 2 rfl) ?_
  refine lv_bipush (v := 63) hx hb d_St_leans_15 (by decide) ?_
  refine lv_iand hx hb d_St_leans_17 ?_
  refine lv_topi (fun x_4 ex_4 => ?_)
  obtain rfl : x_4 = nI (qq % 64) := by rw [ex_4]; first | done | (exact pk_andN (by omega) 6 (by decide))
  refine lv_lshr hx hb d_St_leans_18 rfl ?_
  refine lv_lconst (v := 1) hx hb d_St_leans_19 (by decide) ?_
  refine lv_land hx hb d_St_leans_20 ?_
  refine lv_lconst (v := 0) hx hb d_St_leans_21 (by decide) ?_
  refine W.lcmp hx hb d_St_leans_22 ?_
  refine lv_if_eq (tgt := 30) hx hb d_St_leans_23 (by decide) (fun c_23 => ?_) (fun c_23 => ?_)
  · refine lv_iconst (v := 0) hx hb d_St_leans_30 (by decide) ?_
    exact W.zret (v := 0) hx hb hr nz_b0 (fun t ht hW => ⟨⟨_, (), rfl, Or.inr ⟨rfl, (bt_get _ _ (Nat.mod_lt _ (by decide))).mp c_23⟩, by rw [ht]; exact hP, va_K.moved hW.alike hK, hD⟩, hS.F ht⟩) hS.2.2 d_St_leans_31
  · refine lv_iconst (v := 1) hx hb d_St_leans_26 (by decide) ?_
    refine lv_goto (tgt := 31) hx hb d_St_leans_27 (by decide) ?_
    exact W.zret (v := 1) hx hb hr nz_b1 (fun t ht hW => ⟨⟨_, (), rfl, Or.inl ⟨rfl, eq_true_of_ne_false (fun z => c_23 ((bt_get _ _ (Nat.mod_lt _ (by decide))).mpr z))⟩, by rw [ht]; exact hP, va_K.moved hW.alike hK, hD⟩, hS.F ht⟩) hS.2.2 d_St_leans_31
