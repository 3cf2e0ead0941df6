/-! 68.counted.lean.txt -/
theorem gw_1267 : (Jvm.Cond.methodLink "PatchStore$Stock" (113 : Nat) ({ cls := "java/lang/Long", name := "bitCount", desc := "(J)I" } : Jvm.MethodName)) ∈ xg_1 := xg_s6 67 rfl rfl
def y_St_countLeansOn : MethodName := ⟨"PatchStore$Stock", "countLeansOn", "(I)I"⟩
abbrev c_St_countLeansOn : Cond := (Jvm.Cond.code ({ cls := "PatchStore$Stock", name := "countLeansOn", desc := "(I)I" } : Jvm.MethodName) prog_10_method_17_code (4 : Nat) (Option.some Jvm.ClassFile.FieldType.int))
abbrev ws_St_countLeansOn : List Cond := c_St_countLeansOn :: xg_1
theorem d_St_countLeansOn_0 : decode prog_10_method_17_code 0 = .ok (.iconst 0, 1) := by decide +kernel
theorem d_St_countLeansOn_1 : decode prog_10_method_17_code 1 = .ok (.istore_n 2, 1) := by decide +kernel
theorem d_St_countLeansOn_2 : decode prog_10_method_17_code 2 = .ok (.iconst 0, 1) := by decide +kernel
theorem d_St_countLeansOn_3 : decode prog_10_method_17_code 3 = .ok (.istore_n 3, 1) := by decide +kernel
theorem d_St_countLeansOn_4 : decode prog_10_method_17_code 4 = .ok (.iload_n 3, 1) := by decide +kernel
theorem d_St_countLeansOn_5 : decode prog_10_method_17_code 5 = .ok (.bipush 8, 2) := by decide +kernel
theorem d_St_countLeansOn_7 : decode prog_10_method_17_code 7 = .ok (.if_icmp .ge 26, 3) := by decide +kernel
theorem d_St_countLeansOn_10 : decode prog_10_method_17_code 10 = .ok (.iload_n 2, 1) := by decide +kernel
theorem d_St_countLeansOn_11 : decode prog_10_method_17_code 11 = .ok (.aload_n 0, 1) := by decide +kernel
theorem d_St_countLeansOn_12 : decode prog_10_method_17_code 12 = .ok (.getfield 35, 3) := by decide +kernel
theorem d_St_countLeansOn_15 : decode prog_10_method_17_code 15 = .ok (.iload_n 1, 1) := by decide +kernel
theorem d_St_countLeansOn_16 : decode prog_10_method_17_code 16 = .ok (.bipush 8, 2) := by decide +kernel
theorem d_St_countLeansOn_18 : decode prog_10_method_17_code 18 = .ok (.imul, 1) := by decide +kernel
theorem d_St_countLeansOn_19 : decode prog_10_method_17_code 19 = .ok (.iload_n 3, 1) := by decide +kernel
theorem d_St_countLeansOn_20 : decode prog_10_method_17_code 20 = .ok (.iadd, 1) := by decide +kernel
theorem d_St_countLeansOn_21 : decode prog_10_method_17_code 21 = .ok (.laload, 1) := by decide +kernel
theorem d_St_countLeansOn_22 : decode prog_10_method_17_code 22 = .ok (.invokestatic 113, 3) := by decide +kernel
theorem d_St_countLeansOn_25 : decode prog_10_method_17_code 25 = .ok (.iadd, 1) := by decide +kernel
theorem d_St_countLeansOn_26 : decode prog_10_method_17_code 26 = .ok (.istore_n 2, 1) := by decide +kernel
theorem d_St_countLeansOn_27 : decode prog_10_method_17_code 27 = .ok (.iinc 3 1, 3) := by decide +kernel
theorem d_St_countLeansOn_30 : decode prog_10_method_17_code 30 = .ok (.goto (-26), 3) := by decide +kernel
theorem d_St_countLeansOn_33 : decode prog_10_method_17_code 33 = .ok (.iload_n 2, 1) := by decide +kernel
theorem d_St_countLeansOn_34 : decode prog_10_method_17_code 34 = .ok (.ireturn, 1) := by decide +kernel
def y_Re_countOf : MethodName := ⟨"PatchStore$Repository", "countOf", "([JI)I"⟩
abbrev c_Re_countOf : Cond := (Jvm.Cond.code ({ cls := "PatchStore$Repository", name := "countOf", desc := "([JI)I" } : Jvm.MethodName) prog_8_method_4_code (5 : Nat) (Option.some Jvm.ClassFile.FieldType.int))
abbrev ws_Re_countOf : List Cond := c_Re_countOf :: xg_1
theorem d_Re_countOf_0 : decode prog_8_method_4_code 0 = .ok (.iconst 0, 1) := by decide +kernel
theorem d_Re_countOf_1 : decode prog_8_method_4_code 1 = .ok (.istore_n 3, 1) := by decide +kernel
theorem d_Re_countOf_2 : decode prog_8_method_4_code 2 = .ok (.iconst 0, 1) := by decide +kernel
theorem d_Re_countOf_3 : decode prog_8_method_4_code 3 = .ok (.istore 4, 2) := by decide +kernel
theorem d_Re_countOf_5 : decode prog_8_method_4_code 5 = .ok (.iload 4, 2) := by decide +kernel
theorem d_Re_countOf_7 : decode prog_8_method_4_code 7 = .ok (.bipush 8, 2) := by decide +kernel
theorem d_Re_countOf_9 : decode prog_8_method_4_code 9 = .ok (.if_icmp .ge 32, 3) := by decide +kernel
theorem d_Re_countOf_12 : decode prog_8_method_4_code 12 = .ok (.iload_n 3, 1) := by decide +kernel
theorem d_Re_countOf_13 : decode prog_8_method_4_code 13 = .ok (.aload_n 1, 1) := by decide +kernel
theorem d_Re_countOf_14 : decode prog_8_method_4_code 14 = .ok (.iload_n 2, 1) := by decide +kernel
theorem d_Re_countOf_15 : decode prog_8_method_4_code 15 = .ok (.bipush 8, 2) := by decide +kernel
theorem d_Re_countOf_17 : decode prog_8_method_4_code 17 = .ok (.imul, 1) := by decide +kernel
theorem d_Re_countOf_18 : decode prog_8_method_4_code 18 = .ok (.iload 4, 2) := by decide +kernel
theorem d_Re_countOf_20 : decode prog_8_method_4_code 20 = .ok (.iadd, 1) := by decide +kernel
theorem d_Re_countOf_21 : decode prog_8_method_4_code 21 = .ok (.laload, 1) := by decide +kernel
theorem d_Re_countOf_22 : decode prog_8_method_4_code 22 = .ok (.aload_n 0, 1) := by decide +kernel
theorem d_Re_countOf_23 : decode prog_8_method_4_code 23 = .ok (.getfield 9, 3) := by decide +kernel
theorem d_Re_countOf_26 : decode prog_8_method_4_code 26 = .ok (.iload 4, 2) := by decide +kernel
theorem d_Re_countOf_28 : decode prog_8_method_4_code 28 = .ok (.laload, 1) := by decide +kernel
theorem d_Re_countOf_29 : decode prog_8_method_4_code 29 = .ok (.land, 1) := by decide +kernel
theorem d_Re_countOf_30 : decode prog_8_method_4_code 30 = .ok (.invokestatic 25, 3) := by decide +kernel
theorem d_Re_countOf_33 : decode prog_8_method_4_code 33 = .ok (.iadd, 1) := by decide +kernel
theorem d_Re_countOf_34 : decode prog_8_method_4_code 34 = .ok (.istore_n 3, 1) := by decide +kernel
theorem d_Re_countOf_35 : decode prog_8_method_4_code 35 = .ok (.iinc 4 1, 3) := by decide +kernel
theorem d_Re_countOf_38 : decode prog_8_method_4_code 38 = .ok (.goto (-33), 3) := by decide +kernel
theorem d_Re_countOf_41 : decode prog_8_method_4_code 41 = .ok (.iload_n 3, 1) := by decide +kernel
theorem d_Re_countOf_42 : decode prog_8_method_4_code 42 = .ok (.ireturn, 1) := by decide +kernel
/-- the bits of n words, counted by Long.bitCount -/
def bcs (w : Nat → Int64) : Nat → Int32
  | 0 => 0
  | n + 1 => bcs w n + bc (w n)
set_option maxHeartbeats 4000000 in
set_option maxRecDepth 100000 in
/-- bits counted -/
theorem m_St_countLeansOn (l : Launch) (dC : Nat → ClassId) (dI : Nat → Nat → Nat) (cI cB cL cZ cR : ClassId) (h loA : Nat) (sk_bytes sk_from sk_firstDependency sk_firstChange sk_dependencies sk_hashes sk_byHash sk_leantBy sk_changes sk_lines sk_patches : Value) (low : Nat → Int64) (pp : Nat) (sz : Nat) (hpp : pp < 500) : Met l y_St_countLeansOn ws_St_countLeansOn ({ frames := 1, cells := 0, slots := 0, locals := 60 }) (xw_Pc dC dI [(cI, .int), (cB, .byte), (cL, .long), (cZ, .boolean), (cR, .object "PatchStore$Repository")] [.ref h, .int (nI pp)] [(h, .inr (9, [sk_bytes, sk_from, sk_firstDependency, sk_firstChange, sk_dependencies, sk_hashes, sk_byHash, .ref loA, sk_leantBy, sk_changes, sk_lines, sk_patches])), (loA, .inl (cL, 4000, .inr (.inl low)))] sz) (va_Qi (fun (r : Int32) (_ : Unit) => r = bcs (fun i => low (pp * 8 + i)) 8) (fun _ t => xw_B dC dI [(cI, .int), (cB, .byte), (cL, .long), (cZ, .boolean), (cR, .object "PatchStore$Repository")] (va_A [(h, .inr (9, [sk_bytes, sk_from, sk_firstDependency, sk_firstChange, sk_dependencies, sk_hashes, sk_byHash, .ref loA, sk_leantBy, sk_changes, sk_lines, sk_patches])), (loA, .inl (cL, 4000, .inr (.inl low)))] sz) [(h, .inr (9, [sk_bytes, sk_from, sk_firstDependency, sk_firstChange, sk_dependencies, sk_hashes, sk_byHash, .ref loA, sk_leantBy, sk_changes, sk_lines, sk_patches])), (loA, .inl (cL, 4000, .inr (.inl low)))] t) (va_A [(h, .inr (9, [sk_bytes, sk_from, sk_firstDependency, sk_firstChange, sk_dependencies, sk_hashes, sk_byHash, .ref loA, sk_leantBy, sk_changes, sk_lines, sk_patches])), (loA, .inl (cL, 4000, .inr (.inl low)))] sz)) 0 0 (va_A [(h, .inr (9, [sk_bytes, sk_from, sk_firstDependency, sk_firstChange, sk_dependencies, sk_hashes, sk_byHash, .ref loA, sk_leantBy, sk_changes, sk_lines, sk_patches])), (loA, .inl (cL, 4000, .inr (.inl low)))] sz) := by
  refine Met.ofW (cc := prog_10_method_17_code) (maxL := 4) (ret := (Option.some Jvm.ClassFile.FieldType.int)) (by decide) rfl ?_
  intro p e s m args below meth c s₁ B hml hv
  obtain ⟨rfl, hsz, hP, hK, hD0⟩ := hv
  have hx := B.exec
  have hb := B.bytes
  have hr := B.returns
  have hts0 := atoms_spec (ws := ws_St_countLeansOn) B.pre
  have hts : ∀ w ∈ xg_1, w.before _ s = true := fun w h => hts0 w (List.mem_cons_of_mem _ h)
  have hown : s.vm.findClass "PatchStore$Stock" = some m.cls := findClass_of_methodNamed B.named
  have hlocks := B.notSynchronized
  subst hsz
  have hD := hD0.self (sz := s.heap.size)
  generalize hAe : va_A [(h, .inr (9, [sk_bytes, sk_from, sk_firstDependency, sk_firstChange, sk_dependencies, sk_hashes, sk_byHash, .ref loA, sk_leantBy, sk_changes, sk_lines, sk_patches])), (loA, .inl (cL, 4000, .inr (.inl low)))] s.heap.size = A at hD ⊢
  have hA : ∀ q : Nat, s.heap.size ≤ q → A q := fun q h => by rw [← hAe]; exact Or.inr h
  have hS : va_S A s.heap s.heap [] := va_S.rf
  have hl := lv_entry ([.ref h, .int (nI pp)]) (n := 4) (Nat.le_of_ble_eq_true rfl)
  rw [lg_entry_eq]
  generalize (lg_sl ([.ref h, .int (nI pp)]) ++ List.replicate (4 - (lg_sl ([.ref h, .int (nI pp)])).length) Slot.unset).toArray = ls at hl ⊢
  have hl : lv_has ls 4 [(0, .ref h), (1, .int (nI pp))] := hl
  generalize hQe : MQ _ _ _ _ _ _ _ = Q
  refine lv_iconst (v := 0) hx hb d_St_countLeansOn_0 (by decide) ?_
  refine lv_istore_n (lv' := [(2, .int 0), (0, .ref h), (1, .int (nI pp))]) hx hb d_St_countLeansOn_1 rfl hl (by decide) rfl (fun ls hl => ?_)
  refine lv_iconst (v := 0) hx hb d_St_countLeansOn_2 (by decide) ?_
  refine lv_istore_n (lv' := [(3, .int 0), (2, .int 0), (0, .ref h), (1, .int (nI pp))]) hx hb d_St_countLeansOn_3 rfl hl (by decide) rfl (fun ls hl => ?_)
  have loop_4 : ∀ (n9 : Nat) (i : Nat) (H : Heap) (locs : List Loc) (ls : Array Slot), 8 - i < n9 → (i ≤ 8) → va_P (dC, dI) classes [(h, .inr (9, [sk_bytes, sk_from, sk_firstDependency, sk_firstChange, sk_dependencies, sk_hashes, sk_byHash, .ref loA, sk_leantBy, sk_changes, sk_lines, sk_patches])), (loA, .inl (cL, 4000, .inr (.inl low)))] H → va_D A [(h, .inr (9, [sk_bytes, sk_from, sk_firstDependency, sk_firstChange, sk_dependencies, sk_hashes, sk_byHash, .ref loA, sk_leantBy, sk_changes, sk_lines, sk_patches])), (loA, .inl (cL, 4000, .inr (.inl low)))] → va_S A s.heap H locs → lv_has ls 4 [(0, .ref h), (1, .int (nI pp)), (2, .int (bcs (fun i => low (pp * 8 + i)) i)), (3, .int (nI i))] → W p l e (headSpec ws_St_countLeansOn ({ frames := 1, cells := 0, slots := 0, locals := 60 })).room s m ([.ref h, .int (nI pp)] : List Value).toArray below meth c H locs 0 0 Q (F0 m 4 ls []) := by
    intro n9
    induction n9 with
    | zero => intro i H locs ls hm; exact absurd hm (Nat.not_lt_zero _)
    | succ n9 ih_4 =>
      intro i H locs ls hm hi hP hD hS hl
      refine lv_iload_n hx hb d_St_countLeansOn_4 rfl (lv_at hl 3 rfl) ?_
      refine lv_bipush (v := 8) hx hb d_St_countLeansOn_5 (by decide) ?_
      refine lv_icmp_ge (tgt := 33) hx hb d_St_countLeansOn_7 (by decide) (fun c_7 => ?_) (fun c_7 => ?_)
      · have n_7 : 8 ≤ i := (nI_leI (a := 8) (b := i) (by omega) (by omega)).mp c_7
        refine lv_iload_n hx hb d_St_countLeansOn_33 rfl (lv_at hl 2 rfl) ?_
        rw [← hQe]
        exact W.iret (v := bcs (fun i => low (pp * 8 + i)) i) hx hb hr (fun t ht hW => ⟨⟨_, (), rfl, by rw [show i = 8 by omega], by rw [ht]; exact hP, va_K.moved hW.alike hK, hD⟩, hS.F ht⟩) hS.2.2 d_St_countLeansOn_34
      · have n_7 : i < 8 := Nat.lt_of_not_le (fun z => c_7 ((nI_leI (a := 8) (b := i) (by omega) (by omega)).mpr z))
        refine lv_iload_n hx hb d_St_countLeansOn_10 rfl (lv_at hl 2 rfl) ?_
        refine lv_aload_n hx hb d_St_countLeansOn_11 rfl (lv_at hl 0 rfl) ?_
        refine va_get (D := (dC, dI)) (ci := 9) (v := .ref loA) (C := R_St) (T := F_St) (N := 12) hx hb hts i_St hown hK hP 0 rfl rfl 7 (by decide) (hts _ gw_214) (fun _ h9 => h9) rfl d_St_countLeansOn_12 ?_
        refine lv_iload_n hx hb d_St_countLeansOn_15 rfl (lv_at hl 1 rfl) ?_
        refine lv_bipush (v := 8) hx hb d_St_countLeansOn_16 (by decide) ?_
        refine lv_imul hx hb d_St_countLeansOn_18 ?_
        refine lv_topi (fun x_1 ex_1 => ?_)
        obtain rfl : x_1 = nI (pp * 8) := by rw [ex_1]; first | done | (exact nI_mul _ _)
        refine lv_iload_n hx hb d_St_countLeansOn_19 rfl (lv_at hl 3 rfl) ?_
        refine lv_iadd hx hb d_St_countLeansOn_20 ?_
        refine lv_topi (fun x_2 ex_2 => ?_)
        obtain rfl : x_2 = nI ((pp * 8) + i) := by rw [ex_2]; first | done | (exact nI_add _ _)
        refine va_lald hx hb hK hP 1 2 rfl rfl (vp_in_nI (by omega) (by omega)) d_St_countLeansOn_21 ?_
        rw [show (nI ((pp * 8) + i)).toNatClampNeg = ((pp * 8) + i) from nI_clamp (by omega)]
        have hPc := hP.sub (ws' := []) [] rfl
        have hDc := hD.sub (ws' := []) [] (by decide) rfl
        have hFc := va_free (wc := []) hD hS hA [] rfl
        refine va_calli (va_runS (As := [.long (low ((pp * 8) + i))]) (rest := [.int (bcs (fun i => low (pp * 8 + i)) i)]) ⟨hx, hb, hml, hown, hts⟩ (m_Lg_bitCount l dC dI cI cB cL cZ cR (low ((pp * 8) + i)) H.size ) ⟨callB_of 1 hts (xg_in gw_1236) rfl rfl rfl (hts _ gw_36) (hts _ gw_1267) (by decide +kernel) ⟨Nat.le_of_ble_eq_true rfl, Nat.le_of_ble_eq_true rfl⟩, hts _ gw_1235⟩ ⟨xw_blind, fun U hU hW => ⟨rfl, by rw [hU], by rw [hU]; exact hPc, va_K.moved hW.alike hK, hDc.weaken (fun _ _ _ _ => trivial)⟩⟩ rfl rfl hl.1 rfl (lv_room (Nat.le_of_ble_eq_true rfl)) d_St_countLeansOn_22 ⟨Nat.le_of_ble_eq_true rfl, Nat.le_of_ble_eq_true rfl⟩) hS (fun q _ h => hFc q h) hFc (fun r9 u t H1 locs ht hvm hw hB hz1 hk1 hS => ?_)
        obtain ⟨hP1, hK1, hD1⟩ := hB
        rw [ht] at hP1
        obtain ⟨hP, hD⟩ := va_join (wr := [(h, .inr (9, [sk_bytes, sk_from, sk_firstDependency, sk_firstChange, sk_dependencies, sk_hashes, sk_byHash, .ref loA, sk_leantBy, sk_changes, sk_lines, sk_patches])), (loA, .inl (cL, 4000, .inr (.inl low)))]) (w1 := []) hP hD [] [0, 1] rfl rfl (by decide) (by decide) hk1 hFc hP1 hD1
        generalize H1 = H at hP hS ⊢
        have hP : va_P (dC, dI) classes [(h, .inr (9, [sk_bytes, sk_from, sk_firstDependency, sk_firstChange, sk_dependencies, sk_hashes, sk_byHash, .ref loA, sk_leantBy, sk_changes, sk_lines, sk_patches])), (loA, .inl (cL, 4000, .inr (.inl low)))] H := hP
        have hD : va_D A [(h, .inr (9, [sk_bytes, sk_from, sk_firstDependency, sk_firstChange, sk_dependencies, sk_hashes, sk_byHash, .ref loA, sk_leantBy, sk_changes, sk_lines, sk_patches])), (loA, .inl (cL, 4000, .inr (.inl low)))] := hD
        subst hw
        refine lv_iadd hx hb d_St_countLeansOn_25 ?_
        refine lv_topi (fun x_3 ex_3 => ?_)
        obtain rfl : x_3 = bcs (fun i => low (pp * 8 + i)) (i + 1) := by rw [ex_3]; first | done | (rfl)
        refine lv_istore_n (lv' := [(2, .int (bcs (fun i => low (pp * 8 + i)) (i + 1))), (0, .ref h), (1, .int (nI pp)), (3, .int (nI i))]) hx hb d_St_countLeansOn_26 rfl hl (by decide) rfl (fun ls hl => ?_)
        refine lv_iinc (v := nI (i + 1)) (lv' := [(3, .int (nI (i + 1))), (2, .int (bcs (fun i => low (pp * 8 + i)) (i + 1))), (0, .ref h), (1, .int (nI pp))]) hx hb d_St_countLeansOn_27 hl (k := 3) rfl (by exact nI_add _ _) (by decide) rfl (fun ls hl => ?_)
        refine lv_goto (tgt := 4) hx hb d_St_countLeansOn_30 (by decide) ?_
        exact ih_4 (i + 1) _ _ _ (by omega) (by omega) hP hD hS (lv_sub hl [2, 3, 1, 0] rfl)
  exact loop_4 _ 0 _ _ _ (Nat.lt_succ_self _) (Nat.zero_le _) hP hD hS (lv_sub hl [2, 3, 1, 0] rfl)
set_option maxHeartbeats 4000000 in
set_option maxRecDepth 100000 in
/-- bits counted -/
theorem m_Re_countOf (l : Launch) (dC : Nat → ClassId) (dI : Nat → Nat → Nat) (cI cB cL cZ cR : ClassId) (h mb ro : Nat) (rr_digest rr_size rr_version rr_digestVersion : Value) (mw rw9 : Nat → Int64) (pp : Nat) (sz : Nat) (hpp : pp < 500) : Met l y_Re_countOf ws_Re_countOf ({ frames := 1, cells := 0, slots := 0, locals := 60 }) (xw_Pc dC dI [(cI, .int), (cB, .byte), (cL, .long), (cZ, .boolean), (cR, .object "PatchStore$Repository")] [.ref h, .ref ro, .int (nI pp)] [(h, .inr (7, [.ref mb, rr_digest, rr_size, rr_version, rr_digestVersion])), (mb, .inl (cL, 8, .inr (.inl mw))), (ro, .inl (cL, 4000, .inr (.inl rw9)))] sz) (va_Qi (fun (r : Int32) (_ : Unit) => r = bcs (fun i => rw9 (pp * 8 + i) &&& mw i) 8) (fun _ t => xw_B dC dI [(cI, .int), (cB, .byte), (cL, .long), (cZ, .boolean), (cR, .object "PatchStore$Repository")] (va_A [(h, .inr (7, [.ref mb, rr_digest, rr_size, rr_version, rr_digestVersion])), (mb, .inl (cL, 8, .inr (.inl mw))), (ro, .inl (cL, 4000, .inr (.inl rw9)))] sz) [(h, .inr (7, [.ref mb, rr_digest, rr_size, rr_version, rr_digestVersion])), (mb, .inl (cL, 8, .inr (.inl mw))), (ro, .inl (cL, 4000, .inr (.inl rw9)))] t) (va_A [(h, .inr (7, [.ref mb, rr_digest, rr_size, rr_version, rr_digestVersion])), (mb, .inl (cL, 8, .inr (.inl mw))), (ro, .inl (cL, 4000, .inr (.inl rw9)))] sz)) 0 0 (va_A [(h, .inr (7, [.ref mb, rr_digest, rr_size, rr_version, rr_digestVersion])), (mb, .inl (cL, 8, .inr (.inl mw))), (ro, .inl (cL, 4000, .inr (.inl rw9)))] sz) := by
  refine Met.ofW (cc := prog_8_method_4_code) (maxL := 5) (ret := (Option.some Jvm.ClassFile.FieldType.int)) (by decide) rfl ?_
  intro p e s m args below meth c s₁ B hml hv
  obtain ⟨rfl, hsz, hP, hK, hD0⟩ := hv
  have hx := B.exec
  have hb := B.bytes
  have hr := B.returns
  have hts0 := atoms_spec (ws := ws_Re_countOf) B.pre
  have hts : ∀ w ∈ xg_1, w.before _ s = true := fun w h => hts0 w (List.mem_cons_of_mem _ h)
  have hown : s.vm.findClass "PatchStore$Repository" = some m.cls := findClass_of_methodNamed B.named
  have hlocks := B.notSynchronized
  subst hsz
  have hD := hD0.self (sz := s.heap.size)
  generalize hAe : va_A [(h, .inr (7, [.ref mb, rr_digest, rr_size, rr_version, rr_digestVersion])), (mb, .inl (cL, 8, .inr (.inl mw))), (ro, .inl (cL, 4000, .inr (.inl rw9)))] s.heap.size = A at hD ⊢
  have hA : ∀ q : Nat, s.heap.size ≤ q → A q := fun q h => by rw [← hAe]; exact Or.inr h
  have hS : va_S A s.heap s.heap [] := va_S.rf
  have hl := lv_entry ([.ref h, .ref ro, .int (nI pp)]) (n := 5) (Nat.le_of_ble_eq_true rfl)
  rw [lg_entry_eq]
  generalize (lg_sl ([.ref h, .ref ro, .int (nI pp)]) ++ List.replicate (5 - (lg_sl ([.ref h, .ref ro, .int (nI pp)])).length) Slot.unset).toArray = ls at hl ⊢
  have hl : lv_has ls 5 [(0, .ref h), (1, .ref ro), (2, .int (nI pp))] := hl
  generalize hQe : MQ _ _ _ _ _ _ _ = Q
  refine lv_iconst (v := 0) hx hb d_Re_countOf_0 (by decide) ?_
  refine lv_istore_n (lv' := [(3, .int 0), (0, .ref h), (1, .ref ro), (2, .int (nI pp))]) hx hb d_Re_countOf_1 rfl hl (by decide) rfl (fun ls hl => ?_)
  refine lv_iconst (v := 0) hx hb d_Re_countOf_2 (by decide) ?_
  refine lv_istore (lv' := [(4, .int 0), (3, .int 0), (0, .ref h), (1, .ref ro), (2, .int (nI pp))]) hx hb d_Re_countOf_3 hl (by decide) rfl (fun ls hl => ?_)
  have loop_5 : ∀ (n9 : Nat) (i : Nat) (H : Heap) (locs : List Loc) (ls : Array Slot), 8 - i < n9 → (i ≤ 8) → va_P (dC, dI) classes [(h, .inr (7, [.ref mb, rr_digest, rr_size, rr_version, rr_digestVersion])), (mb, .inl (cL, 8, .inr (.inl mw))), (ro, .inl (cL, 4000, .inr (.inl rw9)))] H → va_D A [(h, .inr (7, [.ref mb, rr_digest, rr_size, rr_version, rr_digestVersion])), (mb, .inl (cL, 8, .inr (.inl mw))), (ro, .inl (cL, 4000, .inr (.inl rw9)))] → va_S A s.heap H locs → lv_has ls 5 [(0, .ref h), (1, .ref ro), (2, .int (nI pp)), (3, .int (bcs (fun i => rw9 (pp * 8 + i) &&& mw i) i)), (4, .int (nI i))] → W p l e (headSpec ws_Re_countOf ({ frames := 1, cells := 0, slots := 0, locals := 60 })).room s m ([.ref h, .ref ro, .int (nI pp)] : List Value).toArray below meth c H locs 0 0 Q (F0 m 5 ls []) := by
    intro n9
    induction n9 with
    | zero => intro i H locs ls hm; exact absurd hm (Nat.not_lt_zero _)
    | succ n9 ih_5 =>
      intro i H locs ls hm hi hP hD hS hl
      refine lv_iload hx hb d_Re_countOf_5 (lv_at hl 4 rfl) ?_
      refine lv_bipush (v := 8) hx hb d_Re_countOf_7 (by decide) ?_
      refine lv_icmp_ge (tgt := 41) hx hb d_Re_countOf_9 (by decide) (fun c_9 => ?_) (fun c_9 => ?_)
      · have n_9 : 8 ≤ i := (nI_leI (a := 8) (b := i) (by omega) (by omega)).mp c_9
        refine lv_iload_n hx hb d_Re_countOf_41 rfl (lv_at hl 3 rfl) ?_
        rw [← hQe]
        exact W.iret (v := bcs (fun i => rw9 (pp * 8 + i) &&& mw i) i) hx hb hr (fun t ht hW => ⟨⟨_, (), rfl, by rw [show i = 8 by omega], by rw [ht]; exact hP, va_K.moved hW.alike hK, hD⟩, hS.F ht⟩) hS.2.2 d_Re_countOf_42
      · have n_9 : i < 8 := Nat.lt_of_not_le (fun z => c_9 ((nI_leI (a := 8) (b := i) (by omega) (by omega)).mpr z))
        refine lv_iload_n hx hb d_Re_countOf_12 rfl (lv_at hl 3 rfl) ?_
        refine lv_aload_n hx hb d_Re_countOf_13 rfl (lv_at hl 1 rfl) ?_
        refine lv_iload_n hx hb d_Re_countOf_14 rfl (lv_at hl 2 rfl) ?_
        refine lv_bipush (v := 8) hx hb d_Re_countOf_15 (by decide) ?_
        refine lv_imul hx hb d_Re_countOf_17 ?_
        refine lv_topi (fun x_1 ex_1 => ?_)
        obtain rfl : x_1 = nI (pp * 8) := by rw [ex_1]; first | done | (exact nI_mul _ _)
        refine lv_iload hx hb d_Re_countOf_18 (lv_at hl 4 rfl) ?_
        refine lv_iadd hx hb d_Re_countOf_20 ?_
        refine lv_topi (fun x_2 ex_2 => ?_)
        obtain rfl : x_2 = nI ((pp * 8) + i) := by rw [ex_2]; first | done | (exact nI_add _ _)
        refine va_lald hx hb hK hP 2 2 rfl rfl (vp_in_nI (by omega) (by omega)) d_Re_countOf_21 ?_
        rw [show (nI ((pp * 8) + i)).toNatClampNeg = ((pp * 8) + i) from nI_clamp (by omega)]
        refine lv_aload_n hx hb d_Re_countOf_22 rfl (lv_at hl 0 rfl) ?_
        refine va_get (D := (dC, dI)) (ci := 7) (v := .ref mb) (C := R_Re) (T := F_Re) (N := 5) hx hb hts i_Re hown hK hP 0 rfl rfl 0 (by decide) (hts _ gw_527) (fun _ h9 => h9) rfl d_Re_countOf_23 ?_
        refine lv_iload hx hb d_Re_countOf_26 (lv_at hl 4 rfl) ?_
        refine va_lald hx hb hK hP 1 2 rfl rfl (vp_in_nI (by omega) (by omega)) d_Re_countOf_28 ?_
        rw [show (nI i).toNatClampNeg = i from nI_clamp (by omega)]
        refine lv_land hx hb d_Re_countOf_29 ?_
        have hPc := hP.sub (ws' := []) [] rfl
        have hDc := hD.sub (ws' := []) [] (by decide) rfl
        have hFc := va_free (wc := []) hD hS hA [] rfl
        refine va_calli (va_runS (As := [.long ((rw9 ((pp * 8) + i)) &&& (mw i))]) (rest := [.int (bcs (fun i => rw9 (pp * 8 + i) &&& mw i) i)]) ⟨hx, hb, hml, hown, hts⟩ (m_Lg_bitCount l dC dI cI cB cL cZ cR ((rw9 ((pp * 8) + i)) &&& (mw i)) H.size ) ⟨callB_of 1 hts (xg_in gw_1236) rfl rfl rfl (hts _ gw_36) (hts _ gw_1234) (by decide +kernel) ⟨Nat.le_of_ble_eq_true rfl, Nat.le_of_ble_eq_true rfl⟩, hts _ gw_1235⟩ ⟨xw_blind, fun U hU hW => ⟨rfl, by rw [hU], by rw [hU]; exact hPc, va_K.moved hW.alike hK, hDc.weaken (fun _ _ _ _ => trivial)⟩⟩ rfl rfl hl.1 rfl (lv_room (Nat.le_of_ble_eq_true rfl)) d_Re_countOf_30 ⟨Nat.le_of_ble_eq_true rfl, Nat.le_of_ble_eq_true rfl⟩) hS (fun q _ h => hFc q h) hFc (fun r9 u t H1 locs ht hvm hw hB hz1 hk1 hS => ?_)
        obtain ⟨hP1, hK1, hD1⟩ := hB
        rw [ht] at hP1
        obtain ⟨hP, hD⟩ := va_join (wr := [(h, .inr (7, [.ref mb, rr_digest, rr_size, rr_version, rr_digestVersion])), (mb, .inl (cL, 8, .inr (.inl mw))), (ro, .inl (cL, 4000, .inr (.inl rw9)))]) (w1 := []) hP hD [] [0, 1, 2] rfl rfl (by decide) (by decide) hk1 hFc hP1 hD1
        generalize H1 = H at hP hS ⊢
        have hP : va_P (dC, dI) classes [(h, .inr (7, [.ref mb, rr_digest, rr_size, rr_version, rr_digestVersion])), (mb, .inl (cL, 8, .inr (.inl mw))), (ro, .inl (cL, 4000, .inr (.inl rw9)))] H := hP
        have hD : va_D A [(h, .inr (7, [.ref mb, rr_digest, rr_size, rr_version, rr_digestVersion])), (mb, .inl (cL, 8, .inr (.inl mw))), (ro, .inl (cL, 4000, .inr (.inl rw9)))] := hD
        subst hw
        refine lv_iadd hx hb d_Re_countOf_33 ?_
        refine lv_topi (fun x_3 ex_3 => ?_)
        obtain rfl : x_3 = bcs (fun i => rw9 (pp * 8 + i) &&& mw i) (i + 1) := by rw [ex_3]; first | done | (rfl)
        refine lv_istore_n (lv' := [(3, .int (bcs (fun i => rw9 (pp * 8 + i) &&& mw i) (i + 1))), (0, .ref h), (1, .ref ro), (2, .int (nI pp)), (4, .int (nI i))]) hx hb d_Re_countOf_34 rfl hl (by decide) rfl (fun ls hl => ?_)
        refine lv_iinc (v := nI (i + 1)) (lv' := [(4, .int (nI (i + 1))), (3, .int (bcs (fun i => rw9 (pp * 8 + i) &&& mw i) (i + 1))), (0, .ref h), (1, .ref ro), (2, .int (nI pp))]) hx hb d_Re_countOf_35 hl (k := 4) rfl (by exact nI_add _ _) (by decide) rfl (fun ls hl => ?_)
        refine lv_goto (tgt := 5) hx hb d_Re_countOf_38 (by decide) ?_
        exact ih_5 (i + 1) _ _ _ (by omega) (by omega) hP hD hS (lv_sub hl [2, 3, 4, 1, 0] rfl)
  exact loop_5 _ 0 _ _ _ (Nat.lt_succ_self _) (Nat.zero_le _) hP hD hS (lv_sub hl [2, 3, 4, 1, 0] rfl)
