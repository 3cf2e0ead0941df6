section
/-! 68.counted.lean.txt -/
theorem gw_1267 : (Jvm.Cond.methodLink "PatchStore$Stock" (113 : Nat) ({ cls := "java/lang/Long", name := "bitCount", desc := "(J)I" } : Jvm.MethodName)) ∈ xg_1 := xg_s6 67 rfl rfl
def y_St_countLeansOn : MethodName := ⟨"PatchStore$Stock", "countLeansOn", "(I)I"⟩
abbrev c_St_countLeansOn : Cond := (Jvm.Cond.code ({ cls := "PatchStore$Stock", name := "countLeansOn", desc := "(I)I" } : Jvm.MethodName) prog_10_method_17_code (4 : Nat) (Option.some Jvm.ClassFile.FieldType.int))
abbrev ws_St_countLeansOn : List Cond := c_St_countLeansOn :: xg_1
theorem d_St_countLeansOn_0 : decode prog_10_method_17_code 0 = .ok (.iconst 0, 1) := by decide +kernel
theorem d_St_countLeansOn_1 : decode prog_10_method_17_code 1 = .ok (.istore_n 2, 1) := by decide +kernel
theorem d_St_countLeansOn_2 : decode prog_10_method_17_code 2 = .ok (.iconst 0, 1) := by decide +kernel
theorem d_St_countLeansOn_3 : decode prog_10_method_17_code 3 = .ok (.istore_n 3, 1) := by decide +kernel
theorem d_St_countLeansOn_4 : decode prog_10_method_17_code 4 = .ok (.iload_n 3, 1) := by decide +kernel
theorem d_St_countLeansOn_5 : decode prog_10_method_17_code 5 = .ok (.bipush 8, 2) := by decide +kernel
theorem d_St_countLeansOn_7 : decode prog_10_method_17_code 7 = .ok (.if_icmp .ge 26, 3) := by decide +kernel
theorem d_St_countLeansOn_10 : decode prog_10_method_17_code 10 = .ok (.iload_n 2, 1) := by decide +kernel
theorem d_St_countLeansOn_11 : decode prog_10_method_17_code 11 = .ok (.aload_n 0, 1) := by decide +kernel
theorem d_St_countLeansOn_12 : decode prog_10_method_17_code 12 = .ok (.getfield 35, 3) := by decide +kernel
theorem d_St_countLeansOn_15 : decode prog_10_method_17_code 15 = .ok (.iload_n 1, 1) := by decide +kernel
theorem d_St_countLeansOn_16 : decode prog_10_method_17_code 16 = .ok (.bipush 8, 2) := by decide +kernel
theorem d_St_countLeansOn_18 : decode prog_10_method_17_code 18 = .ok (.imul, 1) := by decide +kernel
theorem d_St_countLeansOn_19 : decode prog_10_method_17_code 19 = .ok (.iload_n 3, 1) := by decide +kernel
theorem d_St_countLeansOn_20 : decode prog_10_method_17_code 20 = .ok (.iadd, 1) := by decide +kernel
theorem d_St_countLeansOn_21 : decode prog_10_method_17_code 21 = .ok (.laload, 1) := by decide +kernel
theorem d_St_countLeansOn_22 : decode prog_10_method_17_code 22 = .ok (.invokestatic 113, 3) := by decide +kernel
theorem d_St_countLeansOn_25 : decode prog_10_method_17_code 25 = .ok (.iadd, 1) := by decide +kernel
theorem d_St_countLeansOn_26 : decode prog_10_method_17_code 26 = .ok (.istore_n 2, 1) := by decide +kernel
theorem d_St_countLeansOn_27 : decode prog_10_method_17_code 27 = .ok (.iinc 3 1, 3) := by decide +kernel
theorem d_St_countLeansOn_30 : decode prog_10_method_17_code 30 = .ok (.goto (-26), 3) := by decide +kernel
theorem d_St_countLeansOn_33 : decode prog_10_method_17_code 33 = .ok (.iload_n 2, 1) := by decide +kernel
theorem d_St_countLeansOn_34 : decode prog_10_method_17_code 34 = .ok (.ireturn, 1) := by decide +kernel
def y_Re_countOf : MethodName := ⟨"PatchStore$Repository", "countOf", "([JI)I"⟩
abbrev c_Re_countOf : Cond := (Jvm.Cond.code ({ cls := "PatchStore$Repository", name := "countOf", desc := "([JI)I" } : Jvm.MethodName) prog_8_method_4_code (5 : Nat) (Option.some Jvm.ClassFile.FieldType.int))
abbrev ws_Re_countOf : List Cond := c_Re_countOf :: xg_1
theorem d_Re_countOf_0 : decode prog_8_method_4_code 0 = .ok (.iconst 0, 1) := by decide +kernel
theorem d_Re_countOf_1 : decode prog_8_method_4_code 1 = .ok (.istore_n 3, 1) := by decide +kernel
theorem d_Re_countOf_2 : decode prog_8_method_4_code 2 = .ok (.iconst 0, 1) := by decide +kernel
theorem d_Re_countOf_3 : decode prog_8_method_4_code 3 = .ok (.istore 4, 2) := by decide +kernel
theorem d_Re_countOf_5 : decode prog_8_method_4_code 5 = .ok (.iload 4, 2) := by decide +kernel
theorem d_Re_countOf_7 : decode prog_8_method_4_code 7 = .ok (.bipush 8, 2) := by decide +kernel
theorem d_Re_countOf_9 : decode prog_8_method_4_code 9 = .ok (.if_icmp .ge 32, 3) := by decide +kernel
theorem d_Re_countOf_12 : decode prog_8_method_4_code 12 = .ok (.iload_n 3, 1) := by decide +kernel
theorem d_Re_countOf_13 : decode prog_8_method_4_code 13 = .ok (.aload_n 1, 1) := by decide +kernel
theorem d_Re_countOf_14 : decode prog_8_method_4_code 14 = .ok (.iload_n 2, 1) := by decide +kernel
theorem d_Re_countOf_15 : decode prog_8_method_4_code 15 = .ok (.bipush 8, 2) := by decide +kernel
theorem d_Re_countOf_17 : decode prog_8_method_4_code 17 = .ok (.imul, 1) := by decide +kernel
theorem d_Re_countOf_18 : decode prog_8_method_4_code 18 = .ok (.iload 4, 2) := by decide +kernel
theorem d_Re_countOf_20 : decode prog_8_method_4_code 20 = .ok (.iadd, 1) := by decide +kernel
theorem d_Re_countOf_21 : decode prog_8_method_4_code 21 = .ok (.laload, 1) := by decide +kernel
theorem d_Re_countOf_22 : decode prog_8_method_4_code 22 = .ok (.aload_n 0, 1) := by decide +kernel
theorem d_Re_countOf_23 : decode prog_8_method_4_code 23 = .ok (.getfield 9, 3) := by decide +kernel
theorem d_Re_countOf_26 : decode prog_8_method_4_code 26 = .ok (.iload 4, 2) := by decide +kernel
theorem d_Re_countOf_28 : decode prog_8_method_4_code 28 = .ok (.laload, 1) := by decide +kernel
theorem d_Re_countOf_29 : decode prog_8_method_4_code 29 = .ok (.land, 1) := by decide +kernel
theorem d_Re_countOf_30 : decode prog_8_method_4_code 30 = .ok (.invokestatic 25, 3) := by decide +kernel
theorem d_Re_countOf_33 : decode prog_8_method_4_code 33 = .ok (.iadd, 1) := by decide +kernel
theorem d_Re_countOf_34 : decode prog_8_method_4_code 34 = .ok (.istore_n 3, 1) := by decide +kernel
theorem d_Re_countOf_35 : decode prog_8_method_4_code 35 = .ok (.iinc 4 1, 3) := by decide +kernel
theorem d_Re_countOf_38 : decode prog_8_method_4_code 38 = .ok (.goto (-33), 3) := by decide +kernel
theorem d_Re_countOf_41 : decode prog_8_method_4_code 41 = .ok (.iload_n 3, 1) := by decide +kernel
theorem d_Re_countOf_42 : decode prog_8_method_4_code 42 = .ok (.ireturn, 1) := by decide +kernel
/-- the bits of n words, counted by Long.bitCount -/
def bcs (w : Nat → Int64) : Nat → Int32
  | 0 => 0
  | n + 1 => bcs w n + bc (w n)
set_option maxHeartbeats 4000000 in
set_option maxRecDepth 100000 in
/-- bits counted -/
theorem m_St_countLeansOn (l : Launch) (dC : Nat → ClassId) (dI : Nat → Nat → Nat) (cI cB cL cZ cR : ClassId) (h loA : Nat) (sk_bytes sk_from sk_firstDependency sk_firstChange sk_dependencies sk_hashes sk_byHash sk_leantBy sk_changes sk_lines sk_patches : Value) (low : Nat → Int64) (pp : Nat) (sz : Nat) (hpp : pp < 500) : Met l y_St_countLeansOn ws_St_countLeansOn ({ frames := 1, cells := 0, slots := 0, locals := 60 }) (xw_Pc dC dI [(cI, .int), (cB, .byte), (cL, .long), (cZ, .boolean), (cR, .object "PatchStore$Repository")] [.ref h, .int (nI pp)] [(h, .inr (9, [sk_bytes, sk_from, sk_firstDependency, sk_firstChange, sk_dependencies, sk_hashes, sk_byHash, .ref loA, sk_leantBy, sk_changes, sk_lines, sk_patches])), (loA, .inl (cL, 4000, .inr (.inl low)))] sz) (va_Qi (fun (r : Int32) (_ : Unit) => r = bcs (fun i => low (pp * 8 + i)) 8) (fun _ t => xw_B dC dI [(cI, .int), (cB, .byte), (cL, .long), (cZ, .boolean), (cR, .object "PatchStore$Repository")] (va_A [(h, .inr (9, [sk_bytes, sk_from, sk_firstDependency, sk_firstChange, sk_dependencies, sk_hashes, sk_byHash, .ref loA, sk_leantBy, sk_changes, sk_lines, sk_patches])), (loA, .inl (cL, 4000, .inr (.inl low)))] sz) [(h, .inr (9, [sk_bytes, sk_from, sk_firstDependency, sk_firstChange, sk_dependencies, sk_hashes, sk_byHash, .ref loA, sk_leantBy, sk_changes, sk_lines, sk_patches])), (loA, .inl (cL, 4000, .inr (.inl low)))] t) (va_A [(h, .inr (9, [sk_bytes, sk_from, sk_firstDependency, sk_firstChange, sk_dependencies, sk_hashes, sk_byHash, .ref loA, sk_leantBy, sk_changes, sk_lines, sk_patches])), (loA, .inl (cL, 4000, .inr (.inl low)))] sz)) 0 0 (va_A [(h, .inr (9, [sk_bytes, sk_from, sk_firstDependency, sk_firstChange, sk_dependencies, sk_hashes, sk_byHash, .ref loA, sk_leantBy, sk_changes, sk_lines, sk_patches])), (loA, .inl (cL, 4000, .inr (.inl low)))] sz) := by
  refine Met.ofW (cc := prog_10_method_17_code) (maxL := 4) (ret := (Option.some Jvm.ClassFile.FieldType.int)) (by decide) rfl ?_
  intro p e s m args below meth c s₁ B hml hv
  obtain ⟨rfl, hsz, hP, hK, hD0⟩ := hv
  have hx := B.exec
  have hb := B.bytes
  have hr := B.returns
  have hts0 := atoms_spec (ws := ws_St_countLeansOn) B.pre
  have hts : ∀ w ∈ xg_1, w.before _ s = true := fun w h => hts0 w (List.mem_cons_of_mem _ h)
  have hown : s.vm.findClass "PatchStore$Stock" = some m.cls := findClass_of_methodNamed B.named
  have hlocks := B.notSynchronized
  subst hsz
  have hD := hD0.self (sz := s.heap.size)
  generalize hAe : va_A [(h, .inr (9, [sk_bytes, sk_from, sk_firstDependency, sk_firstChange, sk_dependencies, sk_hashes, sk_byHash, .ref loA, sk_leantBy, sk_changes, sk_lines, sk_patches])), (loA, .inl (cL, 4000, .inr (.inl low)))] s.heap.size = A at hD ⊢
  have hA : ∀ q : Nat, s.heap.size ≤ q → A q := fun q h => by rw [← hAe]; exact Or.inr h
  have hS : va_S A s.heap s.heap [] := va_S.rf
  have hl := lv_entry ([.ref h, .int (nI pp)]) (n := 4) (Nat.le_of_ble_eq_true rfl)
  rw [lg_entry_eq]
  generalize (lg_sl ([.ref h, .int (nI pp)]) ++ List.replicate (4 - (lg_sl ([.ref h, .int (nI pp)])).length) Slot.unset).toArray = ls at hl ⊢
  have hl : lv_has ls 4 [(0, .ref h), (1, .int (nI pp))] := hl
  generalize hQe : MQ _ _ _ _ _ _ _ = Q
  refine lv_iconst (v := 0) hx hb d_St_countLeansOn_0 (by decide) ?_
  refine lv_istore_n (lv' := [(2, .int 0), (0, .ref h), (1, .int (nI pp))]) hx hb d_St_countLeansOn_1 rfl hl (by decide) rfl (fun ls hl => ?_)
  refine lv_iconst (v := 0) hx hb d_St_countLeansOn_2 (by decide) ?_
  refine lv_istore_n (lv' := [(3, .int 0), (2, .int 0), (0, .ref h), (1, .int (nI pp))]) hx hb d_St_countLeansOn_3 rfl hl (by decide) rfl (fun ls hl => ?_)
  have loop_4 : ∀ (n9 : Nat) (i : Nat) (H : Heap) (locs : List Loc) (ls : Array Slot), 8 - i < n9 → (i ≤ 8) → va_P (dC, dI) classes [(h, .inr (9, [sk_bytes, sk_from, sk_firstDependency, sk_firstChange, sk_dependencies, sk_hashes, sk_byHash, .ref loA, sk_leantBy, sk_changes, sk_lines, sk_patches])), (loA, .inl (cL, 4000, .inr (.inl low)))] H → va_D A [(h, .inr (9, [sk_bytes, sk_from, sk_firstDependency, sk_firstChange, sk_dependencies, sk_hashes, sk_byHash, .ref loA, sk_leantBy, sk_changes, sk_lines, sk_patches])), (loA, .inl (cL, 4000, .inr (.inl low)))] → va_S A s.heap H locs → lv_has ls 4 [(0, .ref h), (1, .int (nI pp)), (2, .int (bcs (fun i => low (pp * 8 + i)) i)), (3, .int (nI i))] → W p l e (headSpec ws_St_countLeansOn ({ frames := 1, cells := 0, slots := 0, locals := 60 })).room s m ([.ref h, .int (nI pp)] : List Value).toArray below meth c H locs 0 0 Q (F0 m 4 ls []) := by
    intro n9
    induction n9 with
    | zero => intro i H locs ls hm; exact absurd hm (Nat.not_lt_zero _)
    | succ n9 ih_4 =>
      intro i H locs ls hm hi hP hD hS hl
      refine lv_iload_n hx hb d_St_countLeansOn_4 rfl (lv_at hl 3 rfl) ?_
      refine lv_bipush (v := 8) hx hb d_St_countLeansOn_5 (by decide) ?_
      refine lv_icmp_ge (tgt := 33) hx hb d_St_countLeansOn_7 (by decide) (fun c_7 => ?_) (fun c_7 => ?_)
      · have n_7 : 8 ≤ i := (nI_leI (a := 8) (b := i) (by omega) (by omega)).mp c_7
        refine lv_iload_n hx hb d_St_countLeansOn_33 rfl (lv_at hl 2 rfl) ?_
        rw [← hQe]
        exact W.iret (v := bcs (fun i => low (pp * 8 + i)) i) hx hb hr (fun t ht hW => ⟨⟨_, (), rfl, by rw [show i = 8 by omega], by rw [ht]; exact hP, va_K.moved hW.alike hK, hD⟩, hS.F ht⟩) hS.2.2 d_St_countLeansOn_34
      · have n_7 : i < 8 := Nat.lt_of_not_le (fun z => c_7 ((nI_leI (a := 8) (b := i) (by omega) (by omega)).mpr z))
        refine lv_iload_n hx hb d_St_countLeansOn_10 rfl (lv_at hl 2 rfl) ?_
        refine lv_aload_n hx hb d_St_countLeansOn_11 rfl (lv_at hl 0 rfl) ?_
        refine va_get (D := (dC, dI)) (ci := 9) (v := .ref loA) (C := R_St) (T := F_St) (N := 12) hx hb hts i_St hown hK hP 0 rfl rfl 7 (by decide) (hts _ gw_214) (fun _ h9 => h9) rfl d_St_countLeansOn_12 ?_
        refine lv_iload_n hx hb d_St_countLeansOn_15 rfl (lv_at hl 1 rfl) ?_
        refine lv_bipush (v := 8) hx hb d_St_countLeansOn_16 (by decide) ?_
        refine lv_imul hx hb d_St_countLeansOn_18 ?_
        refine lv_topi (fun x_1 ex_1 => ?_)
        obtain rfl : x_1 = nI (pp * 8) := by rw [ex_1]; first | done | (exact nI_mul _ _)
        refine lv_iload_n hx hb d_St_countLeansOn_19 rfl (lv_at hl 3 rfl) ?_
        refine lv_iadd hx hb d_St_countLeansOn_20 ?_
        refine lv_topi (fun x_2 ex_2 => ?_)
        obtain rfl : x_2 = nI ((pp * 8) + i) := by rw [ex_2]; first | done | (exact nI_add _ _)
        refine va_lald hx hb hK hP 1 2 rfl rfl (vp_in_nI (by omega) (by omega)) d_St_countLeansOn_21 ?_
        rw [show (nI ((pp * 8) + i)).toNatClampNeg = ((pp * 8) + i) from nI_clamp (by omega)]
        have hPc := hP.sub (ws' := []) [] rfl
        have hDc := hD.sub (ws' := []) [] (by decide) rfl
        have hFc := va_free (wc := []) hD hS hA [] rfl
        refine va_calli (va_runS (As := [.long (low ((pp * 8) + i))]) (rest := [.int (bcs (fun i => low (pp * 8 + i)) i)]) ⟨hx, hb, hml, hown, hts⟩ (m_Lg_bitCount l dC dI cI cB cL cZ cR (low ((pp * 8) + i)) H.size ) ⟨callB_of 1 hts (xg_in gw_1236) rfl rfl rfl (hts _ gw_36) (hts _ gw_1267) (by decide +kernel) ⟨Nat.le_of_ble_eq_true rfl, Nat.le_of_ble_eq_true rfl⟩, hts _ gw_1235⟩ ⟨xw_blind, fun U hU hW => ⟨rfl, by rw [hU], by rw [hU]; exact hPc, va_K.moved hW.alike hK, hDc.weaken (fun _ _ _ _ => trivial)⟩⟩ rfl rfl hl.1 rfl (lv_room (Nat.le_of_ble_eq_true rfl)) d_St_countLeansOn_22 ⟨Nat.le_of_ble_eq_true rfl, Nat.le_of_ble_eq_true rfl⟩) hS (fun q _ h => hFc q h) hFc (fun r9 u t H1 locs ht hvm hw hB hz1 hk1 hS => ?_)
        obtain ⟨hP1, hK1, hD1⟩ := hB
        rw [ht] at hP1
        obtain ⟨hP, hD⟩ := va_join (wr := [(h, .inr (9, [sk_bytes, sk_from, sk_firstDependency, sk_firstChange, sk_dependencies, sk_hashes, sk_byHash, .ref loA, sk_leantBy, sk_changes, sk_lines, sk_patches])), (loA, .inl (cL, 4000, .inr (.inl low)))]) (w1 := []) hP hD [] [0, 1] rfl rfl (by decide) (by decide) hk1 hFc hP1 hD1
        generalize H1 = H at hP hS ⊢
        have hP : va_P (dC, dI) classes [(h, .inr (9, [sk_bytes, sk_from, sk_firstDependency, sk_firstChange, sk_dependencies, sk_hashes, sk_byHash, .ref loA, sk_leantBy, sk_changes, sk_lines, sk_patches])), (loA, .inl (cL, 4000, .inr (.inl low)))] H := hP
        have hD : va_D A [(h, .inr (9, [sk_bytes, sk_from, sk_firstDependency, sk_firstChange, sk_dependencies, sk_hashes, sk_byHash, .ref loA, sk_leantBy, sk_changes, sk_lines, sk_patches])), (loA, .inl (cL, 4000, .inr (.inl low)))] := hD
        subst hw
        refine lv_iadd hx hb d_St_countLeansOn_25 ?_
        refine lv_topi (fun x_3 ex_3 => ?_)
        obtain rfl : x_3 = bcs (fun i => low (pp * 8 + i)) (i + 1) := by rw [ex_3]; first | done | (rfl)
        refine lv_istore_n (lv' := [(2, .int (bcs (fun i => low (pp * 8 + i)) (i + 1))), (0, .ref h), (1, .int (nI pp)), (3, .int (nI i))]) hx hb d_St_countLeansOn_26 rfl hl (by decide) rfl (fun ls hl => ?_)
        refine lv_iinc (v := nI (i + 1)) (lv' := [(3, .int (nI (i + 1))), (2, .int (bcs (fun i => low (pp * 8 + i)) (i + 1))), (0, .ref h), (1, .int (nI pp))]) hx hb d_St_countLeansOn_27 hl (k := 3) rfl (by exact nI_add _ _) (by decide) rfl (fun ls hl => ?_)
        refine lv_goto (tgt := 4) hx hb d_St_countLeansOn_30 (by decide) ?_
        exact ih_4 (i + 1) _ _ _ (by omega) (by omega) hP hD hS (lv_sub hl [2, 3, 1, 0] rfl)
  exact loop_4 _ 0 _ _ _ (Nat.lt_succ_self _) (Nat.zero_le _) hP hD hS (lv_sub hl [2, 3, 1, 0] rfl)
set_option maxHeartbeats 4000000 in
set_option maxRecDepth 100000 in
/-- bits counted -/
theorem m_Re_countOf (l : Launch) (dC : Nat → ClassId) (dI : Nat → Nat → Nat) (cI cB cL cZ cR : ClassId) (h mb ro : Nat) (rr_digest rr_size rr_version rr_digestVersion : Value) (mw rw9 : Nat → Int64) (pp : Nat) (sz : Nat) (hpp : pp < 500) : Met l y_Re_countOf ws_Re_countOf ({ frames := 1, cells := 0, slots := 0, locals := 60 }) (xw_Pc dC dI [(cI, .int), (cB, .byte), (cL, .long), (cZ, .boolean), (cR, .object "PatchStore$Repository")] [.ref h, .ref ro, .int (nI pp)] [(h, .inr (7, [.ref mb, rr_digest, rr_size, rr_version, rr_digestVersion])), (mb, .inl (cL, 8, .inr (.inl mw))), (ro, .inl (cL, 4000, .inr (.inl rw9)))] sz) (va_Qi (fun (r : Int32) (_ : Unit) => r = bcs (fun i => rw9 (pp * 8 + i) &&& mw i) 8) (fun _ t => xw_B dC dI [(cI, .int), (cB, .byte), (cL, .long), (cZ, .boolean), (cR, .object "PatchStore$Repository")] (va_A [(h, .inr (7, [.ref mb, rr_digest, rr_size, rr_version, rr_digestVersion])), (mb, .inl (cL, 8, .inr (.inl mw))), (ro, .inl (cL, 4000, .inr (.inl rw9)))] sz) [(h, .inr (7, [.ref mb, rr_digest, rr_size, rr_version, rr_digestVersion])), (mb, .inl (cL, 8, .inr (.inl mw))), (ro, .inl (cL, 4000, .inr (.inl rw9)))] t) (va_A [(h, .inr (7, [.ref mb, rr_digest, rr_size, rr_version, rr_digestVersion])), (mb, .inl (cL, 8, .inr (.inl mw))), (ro, .inl (cL, 4000, .inr (.inl rw9)))] sz)) 0 0 (va_A [(h, .inr (7, [.ref mb, rr_digest, rr_size, rr_version, rr_digestVersion])), (mb, .inl (cL, 8, .inr (.inl mw))), (ro, .inl (cL, 4000, .inr (.inl rw9)))] sz) := by
  refine Met.ofW (cc := prog_8_method_4_code) (maxL := 5) (ret := (Option.some Jvm.ClassFile.FieldType.int)) (by decide) rfl ?_
  intro p e s m args below meth c s₁ B hml hv
  obtain ⟨rfl, hsz, hP, hK, hD0⟩ := hv
  have hx := B.exec
  have hb := B.bytes
  have hr := B.returns
  have hts0 := atoms_spec (ws := ws_Re_countOf) B.pre
  have hts : ∀ w ∈ xg_1, w.before _ s = true := fun w h => hts0 w (List.mem_cons_of_mem _ h)
  have hown : s.vm.findClass "PatchStore$Repository" = some m.cls := findClass_of_methodNamed B.named
  have hlocks := B.notSynchronized
  subst hsz
  have hD := hD0.self (sz := s.heap.size)
  generalize hAe : va_A [(h, .inr (7, [.ref mb, rr_digest, rr_size, rr_version, rr_digestVersion])), (mb, .inl (cL, 8, .inr (.inl mw))), (ro, .inl (cL, 4000, .inr (.inl rw9)))] s.heap.size = A at hD ⊢
  have hA : ∀ q : Nat, s.heap.size ≤ q → A q := fun q h => by rw [← hAe]; exact Or.inr h
  have hS : va_S A s.heap s.heap [] := va_S.rf
  have hl := lv_entry ([.ref h, .ref ro, .int (nI pp)]) (n := 5) (Nat.le_of_ble_eq_true rfl)
  rw [lg_entry_eq]
  generalize (lg_sl ([.ref h, .ref ro, .int (nI pp)]) ++ List.replicate (5 - (lg_sl ([.ref h, .ref ro, .int (nI pp)])).length) Slot.unset).toArray = ls at hl ⊢
  have hl : lv_has ls 5 [(0, .ref h), (1, .ref ro), (2, .int (nI pp))] := hl
  generalize hQe : MQ _ _ _ _ _ _ _ = Q
  refine lv_iconst (v := 0) hx hb d_Re_countOf_0 (by decide) ?_
  refine lv_istore_n (lv' := [(3, .int 0), (0, .ref h), (1, .ref ro), (2, .int (nI pp))]) hx hb d_Re_countOf_1 rfl hl (by decide) rfl (fun ls hl => ?_)
  refine lv_iconst (v := 0) hx hb d_Re_countOf_2 (by decide) ?_
  refine lv_istore (lv' := [(4, .int 0), (3, .int 0), (0, .ref h), (1, .ref ro), (2, .int (nI pp))]) hx hb d_Re_countOf_3 hl (by decide) rfl (fun ls hl => ?_)
  have loop_5 : ∀ (n9 : Nat) (i : Nat) (H : Heap) (locs : List Loc) (ls : Array Slot), 8 - i < n9 → (i ≤ 8) → va_P (dC, dI) classes [(h, .inr (7, [.ref mb, rr_digest, rr_size, rr_version, rr_digestVersion])), (mb, .inl (cL, 8, .inr (.inl mw))), (ro, .inl (cL, 4000, .inr (.inl rw9)))] H → va_D A [(h, .inr (7, [.ref mb, rr_digest, rr_size, rr_version, rr_digestVersion])), (mb, .inl (cL, 8, .inr (.inl mw))), (ro, .inl (cL, 4000, .inr (.inl rw9)))] → va_S A s.heap H locs → lv_has ls 5 [(0, .ref h), (1, .ref ro), (2, .int (nI pp)), (3, .int (bcs (fun i => rw9 (pp * 8 + i) &&& mw i) i)), (4, .int (nI i))] → W p l e (headSpec ws_Re_countOf ({ frames := 1, cells := 0, slots := 0, locals := 60 })).room s m ([.ref h, .ref ro, .int (nI pp)] : List Value).toArray below meth c H locs 0 0 Q (F0 m 5 ls []) := by
    intro n9
    induction n9 with
    | zero => intro i H locs ls hm; exact absurd hm (Nat.not_lt_zero _)
    | succ n9 ih_5 =>
      intro i H locs ls hm hi hP hD hS hl
      refine lv_iload hx hb d_Re_countOf_5 (lv_at hl 4 rfl) ?_
      refine lv_bipush (v := 8) hx hb d_Re_countOf_7 (by decide) ?_
      refine lv_icmp_ge (tgt := 41) hx hb d_Re_countOf_9 (by decide) (fun c_9 => ?_) (fun c_9 => ?_)
      · have n_9 : 8 ≤ i := (nI_leI (a := 8) (b := i) (by omega) (by omega)).mp c_9
        refine lv_iload_n hx hb d_Re_countOf_41 rfl (lv_at hl 3 rfl) ?_
        rw [← hQe]
        exact W.iret (v := bcs (fun i => rw9 (pp * 8 + i) &&& mw i) i) hx hb hr (fun t ht hW => ⟨⟨_, (), rfl, by rw [show i = 8 by omega], by rw [ht]; exact hP, va_K.moved hW.alike hK, hD⟩, hS.F ht⟩) hS.2.2 d_Re_countOf_42
      · have n_9 : i < 8 := Nat.lt_of_not_le (fun z => c_9 ((nI_leI (a := 8) (b := i) (by omega) (by omega)).mpr z))
        refine lv_iload_n hx hb d_Re_countOf_12 rfl (lv_at hl 3 rfl) ?_
        refine lv_aload_n hx hb d_Re_countOf_13 rfl (lv_at hl 1 rfl) ?_
        refine lv_iload_n hx hb d_Re_countOf_14 rfl (lv_at hl 2 rfl) ?_
        refine lv_bipush (v := 8) hx hb d_Re_countOf_15 (by decide) ?_
        refine lv_imul hx hb d_Re_countOf_17 ?_
        refine lv_topi (fun x_1 ex_1 => ?_)
        obtain rfl : x_1 = nI (pp * 8) := by rw [ex_1]; first | done | (exact nI_mul _ _)
        refine lv_iload hx hb d_Re_countOf_18 (lv_at hl 4 rfl) ?_
        refine lv_iadd hx hb d_Re_countOf_20 ?_
        refine lv_topi (fun x_2 ex_2 => ?_)
        obtain rfl : x_2 = nI ((pp * 8) + i) := by rw [ex_2]; first | done | (exact nI_add _ _)
        refine va_lald hx hb hK hP 2 2 rfl rfl (vp_in_nI (by omega) (by omega)) d_Re_countOf_21 ?_
        rw [show (nI ((pp * 8) + i)).toNatClampNeg = ((pp * 8) + i) from nI_clamp (by omega)]
        refine lv_aload_n hx hb d_Re_countOf_22 rfl (lv_at hl 0 rfl) ?_
        refine va_get (D := (dC, dI)) (ci := 7) (v := .ref mb) (C := R_Re) (T := F_Re) (N := 5) hx hb hts i_Re hown hK hP 0 rfl rfl 0 (by decide) (hts _ gw_527) (fun _ h9 => h9) rfl d_Re_countOf_23 ?_
        refine lv_iload hx hb d_Re_countOf_26 (lv_at hl 4 rfl) ?_
        refine va_lald hx hb hK hP 1 2 rfl rfl (vp_in_nI (by omega) (by omega)) d_Re_countOf_28 ?_
        rw [show (nI i).toNatClampNeg = i from nI_clamp (by omega)]
        refine lv_land hx hb d_Re_countOf_29 ?_
        have hPc := hP.sub (ws' := []) [] rfl
        have hDc := hD.sub (ws' := []) [] (by decide) rfl
        have hFc := va_free (wc := []) hD hS hA [] rfl
        refine va_calli (va_runS (As := [.long ((rw9 ((pp * 8) + i)) &&& (mw i))]) (rest := [.int (bcs (fun i => rw9 (pp * 8 + i) &&& mw i) i)]) ⟨hx, hb, hml, hown, hts⟩ (m_Lg_bitCount l dC dI cI cB cL cZ cR ((rw9 ((pp * 8) + i)) &&& (mw i)) H.size ) ⟨callB_of 1 hts (xg_in gw_1236) rfl rfl rfl (hts _ gw_36) (hts _ gw_1234) (by decide +kernel) ⟨Nat.le_of_ble_eq_true rfl, Nat.le_of_ble_eq_true rfl⟩, hts _ gw_1235⟩ ⟨xw_blind, fun U hU hW => ⟨rfl, by rw [hU], by rw [hU]; exact hPc, va_K.moved hW.alike hK, hDc.weaken (fun _ _ _ _ => trivial)⟩⟩ rfl rfl hl.1 rfl (lv_room (Nat.le_of_ble_eq_true rfl)) d_Re_countOf_30 ⟨Nat.le_of_ble_eq_true rfl, Nat.le_of_ble_eq_true rfl⟩) hS (fun q _ h => hFc q h) hFc (fun r9 u t H1 locs ht hvm hw hB hz1 hk1 hS => ?_)
        obtain ⟨hP1, hK1, hD1⟩ := hB
        rw [ht] at hP1
        obtain ⟨hP, hD⟩ := va_join (wr := [(h, .inr (7, [.ref mb, rr_digest, rr_size, rr_version, rr_digestVersion])), (mb, .inl (cL, 8, .inr (.inl mw))), (ro, .inl (cL, 4000, .inr (.inl rw9)))]) (w1 := []) hP hD [] [0, 1, 2] rfl rfl (by decide) (by decide) hk1 hFc hP1 hD1
        generalize H1 = H at hP hS ⊢
        have hP : va_P (dC, dI) classes [(h, .inr (7, [.ref mb, rr_digest, rr_size, rr_version, rr_digestVersion])), (mb, .inl (cL, 8, .inr (.inl mw))), (ro, .inl (cL, 4000, .inr (.inl rw9)))] H := hP
        have hD : va_D A [(h, .inr (7, [.ref mb, rr_digest, rr_size, rr_version, rr_digestVersion])), (mb, .inl (cL, 8, .inr (.inl mw))), (ro, .inl (cL, 4000, .inr (.inl rw9)))] := hD
        subst hw
        refine lv_iadd hx hb d_Re_countOf_33 ?_
        refine lv_topi (fun x_3 ex_3 => ?_)
        obtain rfl : x_3 = bcs (fun i => rw9 (pp * 8 + i) &&& mw i) (i + 1) := by rw [ex_3]; first | done | (rfl)
        refine lv_istore_n (lv' := [(3, .int (bcs (fun i => rw9 (pp * 8 + i) &&& mw i) (i + 1))), (0, .ref h), (1, .ref ro), (2, .int (nI pp)), (4, .int (nI i))]) hx hb d_Re_countOf_34 rfl hl (by decide) rfl (fun ls hl => ?_)
        refine lv_iinc (v := nI (i + 1)) (lv' := [(4, .int (nI (i + 1))), (3, .int (bcs (fun i => rw9 (pp * 8 + i) &&& mw i) (i + 1))), (0, .ref h), (1, .ref ro), (2, .int (nI pp))]) hx hb d_Re_countOf_35 hl (k := 4) rfl (by exact nI_add _ _) (by decide) rfl (fun ls hl => ?_)
        refine lv_goto (tgt := 5) hx hb d_Re_countOf_38 (by decide) ?_
        exact ih_5 (i + 1) _ _ _ (by omega) (by omega) hP hD hS (lv_sub hl [2, 3, 4, 1, 0] rfl)
  exact loop_5 _ 0 _ _ _ (Nat.lt_succ_self _) (Nat.zero_le _) hP hD hS (lv_sub hl [2, 3, 4, 1, 0] rfl)
end
section
/-! 69.takeall.lean.txt -/
theorem updL_eq (f : Nat → Int64) (k : Nat) (v : Int64) : vp_updL f k v k = v := if_pos rfl
theorem updL_ne (f : Nat → Int64) {k j : Nat} {v : Int64} (h : ¬ j = k) : vp_updL f k v j = f j := if_neg h
set_option maxHeartbeats 4000000 in
set_option maxRecDepth 100000 in
/-- a row comes into the set -/
theorem m_Re_takeAll (l : Launch) (dC : Nat → ClassId) (dI : Nat → Nat → Nat) (cI cB cL cZ cR : ClassId) (h mb ro : Nat) (rr_digest rr_digestVersion : Value) (mw rw9 : Nat → Int64) (N1 o9 : Nat) (sz0 vv : Int32) (sz : Nat) (hN1 : N1 < 2 ^ 31) (ho : o9 + 8 ≤ N1) : Met l y_Re_takeAll ws_Re_takeAll ({ frames := 1, cells := 0, slots := 0, locals := 60 }) (xw_Pc dC dI [(cI, .int), (cB, .byte), (cL, .long), (cZ, .boolean), (cR, .object "PatchStore$Repository")] [.ref h, .ref ro, .int (nI o9)] [(h, .inr (7, [.ref mb, rr_digest, .int sz0, .int vv, rr_digestVersion])), (mb, .inl (cL, 8, .inr (.inl mw))), (ro, .inl (cL, N1, .inr (.inl rw9)))] sz) (va_Qi (fun (r : Int32) (u : (Nat → Int64) × Int32) => r = bcs (fun j => rw9 (o9 + j) &&& (mw j ^^^ (-1))) 8 ∧ (∀ j, j < 8 → u.1 j = mw j ||| rw9 (o9 + j)) ∧ ((sz0 + bcs (fun j => rw9 (o9 + j) &&& (mw j ^^^ (-1))) 8 = sz0 ∧ u.2 = vv) ∨ (¬ sz0 + bcs (fun j => rw9 (o9 + j) &&& (mw j ^^^ (-1))) 8 = sz0 ∧ u.2 = vv + 1))) (fun u t => xw_B dC dI [(cI, .int), (cB, .byte), (cL, .long), (cZ, .boolean), (cR, .object "PatchStore$Repository")] (va_A [(h, .inr (7, [.ref mb, rr_digest, .int sz0, .int vv, rr_digestVersion])), (mb, .inl (cL, 8, .inr (.inl mw))), (ro, .inl (cL, N1, .inr (.inl rw9)))] sz) [(h, .inr (7, [.ref mb, rr_digest, .int (sz0 + bcs (fun j => rw9 (o9 + j) &&& (mw j ^^^ (-1))) 8), .int u.2, rr_digestVersion])), (mb, .inl (cL, 8, .inr (.inl u.1))), (ro, .inl (cL, N1, .inr (.inl rw9)))] t) (va_A [(h, .inr (7, [.ref mb, rr_digest, .int sz0, .int vv, rr_digestVersion])), (mb, .inl (cL, 8, .inr (.inl mw))), (ro, .inl (cL, N1, .inr (.inl rw9)))] sz)) 0 0 (va_A [(h, .inr (7, [.ref mb, rr_digest, .int sz0, .int vv, rr_digestVersion])), (mb, .inl (cL, 8, .inr (.inl mw))), (ro, .inl (cL, N1, .inr (.inl rw9)))] sz) := by
  refine Met.ofW (cc := prog_8_method_6_code) (maxL := 5) (ret := (Option.some Jvm.ClassFile.FieldType.int)) (by decide) rfl ?_
  intro p e s m args below meth c s₁ B hml hv
  obtain ⟨rfl, hsz, hP, hK, hD0⟩ := hv
  have hx := B.exec
  have hb := B.bytes
  have hr := B.returns
  have hts0 := atoms_spec (ws := ws_Re_takeAll) B.pre
  have hts : ∀ w ∈ xg_1, w.before _ s = true := fun w h => hts0 w (List.mem_cons_of_mem _ h)
  have hown : s.vm.findClass "PatchStore$Repository" = some m.cls := findClass_of_methodNamed B.named
  have hlocks := B.notSynchronized
  subst hsz
  have hD := hD0.self (sz := s.heap.size)
  generalize hAe : va_A [(h, .inr (7, [.ref mb, rr_digest, .int sz0, .int vv, rr_digestVersion])), (mb, .inl (cL, 8, .inr (.inl mw))), (ro, .inl (cL, N1, .inr (.inl rw9)))] s.heap.size = A at hD ⊢
  have hA : ∀ q : Nat, s.heap.size ≤ q → A q := fun q h => by rw [← hAe]; exact Or.inr h
  have hS : va_S A s.heap s.heap [] := va_S.rf
  have hl := lv_entry ([.ref h, .ref ro, .int (nI o9)]) (n := 5) (Nat.le_of_ble_eq_true rfl)
  rw [lg_entry_eq]
  generalize (lg_sl ([.ref h, .ref ro, .int (nI o9)]) ++ List.replicate (5 - (lg_sl ([.ref h, .ref ro, .int (nI o9)])).length) Slot.unset).toArray = ls at hl ⊢
  have hl : lv_has ls 5 [(0, .ref h), (1, .ref ro), (2, .int (nI o9))] := hl
  generalize hQe : MQ _ _ _ _ _ _ _ = Q
  refine lv_aload_n hx hb d_Re_takeAll_0 rfl (lv_at hl 0 rfl) ?_
  refine va_get (D := (dC, dI)) (ci := 7) (v := .int sz0) (C := R_Re) (T := F_Re) (N := 5) hx hb hts i_Re hown hK hP 0 rfl rfl 2 (by decide) (hts _ gw_531) (fun _ h9 => h9) rfl d_Re_takeAll_1 ?_
  refine lv_istore_n (lv' := [(3, .int sz0), (0, .ref h), (1, .ref ro), (2, .int (nI o9))]) hx hb d_Re_takeAll_4 rfl hl (by decide) rfl (fun ls hl => ?_)
  refine lv_iconst (v := 0) hx hb d_Re_takeAll_5 (by decide) ?_
  refine lv_istore (lv' := [(4, .int 0), (3, .int sz0), (0, .ref h), (1, .ref ro), (2, .int (nI o9))]) hx hb d_Re_takeAll_6 hl (by decide) rfl (fun ls hl => ?_)
  have e0 : sz0 = sz0 + bcs (fun j => rw9 (o9 + j) &&& (mw j ^^^ (-1))) 0 := (Int32.add_zero _).symm
  have hP : va_P (dC, dI) classes [(h, .inr (7, [.ref mb, rr_digest, .int (sz0 + bcs (fun j => rw9 (o9 + j) &&& (mw j ^^^ (-1))) 0), .int vv, rr_digestVersion])), (mb, .inl (cL, 8, .inr (.inl mw))), (ro, .inl (cL, N1, .inr (.inl rw9)))] s.heap := by rw [← e0]; exact hP
  have hD : va_D A [(h, .inr (7, [.ref mb, rr_digest, .int (sz0 + bcs (fun j => rw9 (o9 + j) &&& (mw j ^^^ (-1))) 0), .int vv, rr_digestVersion])), (mb, .inl (cL, 8, .inr (.inl mw))), (ro, .inl (cL, N1, .inr (.inl rw9)))] := by rw [← e0]; exact hD
  have loop_8 : ∀ (n9 : Nat) (i : Nat) (g9 : Nat → Int64) (H : Heap) (locs : List Loc) (ls : Array Slot), 8 - i < n9 → (i ≤ 8) → (∀ j, j < i → g9 j = mw j ||| rw9 (o9 + j)) → (∀ j, i ≤ j → g9 j = mw j) → va_P (dC, dI) classes [(h, .inr (7, [.ref mb, rr_digest, .int (sz0 + bcs (fun j => rw9 (o9 + j) &&& (mw j ^^^ (-1))) i), .int vv, rr_digestVersion])), (mb, .inl (cL, 8, .inr (.inl g9))), (ro, .inl (cL, N1, .inr (.inl rw9)))] H → va_D A [(h, .inr (7, [.ref mb, rr_digest, .int (sz0 + bcs (fun j => rw9 (o9 + j) &&& (mw j ^^^ (-1))) i), .int vv, rr_digestVersion])), (mb, .inl (cL, 8, .inr (.inl g9))), (ro, .inl (cL, N1, .inr (.inl rw9)))] → va_S A s.heap H locs → lv_has ls 5 [(0, .ref h), (1, .ref ro), (2, .int (nI o9)), (3, .int sz0), (4, .int (nI i))] → W p l e (headSpec ws_Re_takeAll ({ frames := 1, cells := 0, slots := 0, locals := 60 })).room s m ([.ref h, .ref ro, .int (nI o9)] : List Value).toArray below meth c H locs 0 0 Q (F0 m 8 ls []) := by
    intro n9
    induction n9 with
    | zero => intro i g9 H locs ls hm; exact absurd hm (Nat.not_lt_zero _)
    | succ n9 ih_8 =>
      intro i g9 H locs ls hm hi hq1 hq2 hP hD hS hl
      refine lv_iload hx hb d_Re_takeAll_8 (lv_at hl 4 rfl) ?_
      refine lv_bipush (v := 8) hx hb d_Re_takeAll_10 (by decide) ?_
      refine lv_icmp_ge (tgt := 67) hx hb d_Re_takeAll_12 (by decide) (fun c_12 => ?_) (fun c_12 => ?_)
      · have n_12 : 8 ≤ i := (nI_leI (a := 8) (b := i) (by omega) (by omega)).mp c_12
        refine lv_aload_n hx hb d_Re_takeAll_67 rfl (lv_at hl 0 rfl) ?_
        refine va_get (D := (dC, dI)) (ci := 7) (v := .int (sz0 + bcs (fun j => rw9 (o9 + j) &&& (mw j ^^^ (-1))) i)) (C := R_Re) (T := F_Re) (N := 5) hx hb hts i_Re hown hK hP 0 rfl rfl 2 (by decide) (hts _ gw_531) (fun _ h9 => h9) rfl d_Re_takeAll_68 ?_
        refine lv_iload_n hx hb d_Re_takeAll_71 rfl (lv_at hl 3 rfl) ?_
        refine lv_icmp_eq (tgt := 85) hx hb d_Re_takeAll_72 (by decide) (fun c_72 => ?_) (fun c_72 => ?_)
        · refine lv_aload_n hx hb d_Re_takeAll_85 rfl (lv_at hl 0 rfl) ?_
          refine va_get (D := (dC, dI)) (ci := 7) (v := .int (sz0 + bcs (fun j => rw9 (o9 + j) &&& (mw j ^^^ (-1))) i)) (C := R_Re) (T := F_Re) (N := 5) hx hb hts i_Re hown hK hP 0 rfl rfl 2 (by decide) (hts _ gw_531) (fun _ h9 => h9) rfl d_Re_takeAll_86 ?_
          refine lv_iload_n hx hb d_Re_takeAll_89 rfl (lv_at hl 3 rfl) ?_
          refine lv_isub hx hb d_Re_takeAll_90 ?_
          refine lv_topi (fun x_1 ex_1 => ?_)
          obtain rfl : x_1 = bcs (fun j => rw9 (o9 + j) &&& (mw j ^^^ (-1))) i := by rw [ex_1]; first | done | (rw [Int32.add_comm, Int32.add_sub_cancel])
          rw [← hQe]
          have e8 : i = 8 := by omega
          subst e8
          exact W.iret (v := bcs (fun j => rw9 (o9 + j) &&& (mw j ^^^ (-1))) 8) hx hb hr (fun t ht hW => ⟨⟨_, (g9, vv), rfl, ⟨rfl, fun j z => hq1 j z, Or.inl ⟨c_72, rfl⟩⟩, by rw [ht]; exact hP, va_K.moved hW.alike hK, hD⟩, hS.F ht⟩) hS.2.2 d_Re_takeAll_91
        · refine lv_aload_n hx hb d_Re_takeAll_75 rfl (lv_at hl 0 rfl) ?_
          refine lv_dup hx hb d_Re_takeAll_76 rfl ?_
          refine va_get (D := (dC, dI)) (ci := 7) (v := .int vv) (C := R_Re) (T := F_Re) (N := 5) hx hb hts i_Re hown hK hP 0 rfl rfl 3 (by decide) (hts _ gw_535) (fun _ h9 => h9) rfl d_Re_takeAll_77 ?_
          refine lv_iconst (v := 1) hx hb d_Re_takeAll_80 (by decide) ?_
          refine lv_iadd hx hb d_Re_takeAll_81 ?_
          refine va_put (D := (dC, dI)) (ci := 7) (v := .int (vv + 1)) (ty := .int) (C := R_Re) (T := F_Re) (N := 5) hx hb hts i_Re t_Re t_Re_ok n_Re hown hK hP hD hS 0 rfl rfl 3 (by decide) (hts _ gw_535) (fun _ h9 => h9) rfl (by decide +kernel) rfl rfl (Nat.le_of_ble_eq_true rfl) d_Re_takeAll_82 (fun H locs hP hD hS => ?_)
          have hP : va_P (dC, dI) classes [(h, .inr (7, [.ref mb, rr_digest, .int (sz0 + bcs (fun j => rw9 (o9 + j) &&& (mw j ^^^ (-1))) i), .int (vv + 1), rr_digestVersion])), (mb, .inl (cL, 8, .inr (.inl g9))), (ro, .inl (cL, N1, .inr (.inl rw9)))] H := hP
          have hD : va_D A [(h, .inr (7, [.ref mb, rr_digest, .int (sz0 + bcs (fun j => rw9 (o9 + j) &&& (mw j ^^^ (-1))) i), .int (vv + 1), rr_digestVersion])), (mb, .inl (cL, 8, .inr (.inl g9))), (ro, .inl (cL, N1, .inr (.inl rw9)))] := hD
          refine lv_aload_n hx hb d_Re_takeAll_85 rfl (lv_at hl 0 rfl) ?_
          refine va_get (D := (dC, dI)) (ci := 7) (v := .int (sz0 + bcs (fun j => rw9 (o9 + j) &&& (mw j ^^^ (-1))) i)) (C := R_Re) (T := F_Re) (N := 5) hx hb hts i_Re hown hK hP 0 rfl rfl 2 (by decide) (hts _ gw_531) (fun _ h9 => h9) rfl d_Re_takeAll_86 ?_
          refine lv_iload_n hx hb d_Re_takeAll_89 rfl (lv_at hl 3 rfl) ?_
          refine lv_isub hx hb d_Re_takeAll_90 ?_
          refine lv_topi (fun x_2 ex_2 => ?_)
          obtain rfl : x_2 = bcs (fun j => rw9 (o9 + j) &&& (mw j ^^^ (-1))) i := by rw [ex_2]; first | done | (rw [Int32.add_comm, Int32.add_sub_cancel])
          rw [← hQe]
          have e8 : i = 8 := by omega
          subst e8
          exact W.iret (v := bcs (fun j => rw9 (o9 + j) &&& (mw j ^^^ (-1))) 8) hx hb hr (fun t ht hW => ⟨⟨_, (g9, vv + 1), rfl, ⟨rfl, fun j z => hq1 j z, Or.inr ⟨c_72, rfl⟩⟩, by rw [ht]; exact hP, va_K.moved hW.alike hK, hD⟩, hS.F ht⟩) hS.2.2 d_Re_takeAll_91
      · have n_12 : i < 8 := Nat.lt_of_not_le (fun z => c_12 ((nI_leI (a := 8) (b := i) (by omega) (by omega)).mpr z))
        refine lv_aload_n hx hb d_Re_takeAll_15 rfl (lv_at hl 0 rfl) ?_
        refine lv_dup hx hb d_Re_takeAll_16 rfl ?_
        refine va_get (D := (dC, dI)) (ci := 7) (v := .int (sz0 + bcs (fun j => rw9 (o9 + j) &&& (mw j ^^^ (-1))) i)) (C := R_Re) (T := F_Re) (N := 5) hx hb hts i_Re hown hK hP 0 rfl rfl 2 (by decide) (hts _ gw_531) (fun _ h9 => h9) rfl d_Re_takeAll_17 ?_
        refine lv_aload_n hx hb d_Re_takeAll_20 rfl (lv_at hl 1 rfl) ?_
        refine lv_iload_n hx hb d_Re_takeAll_21 rfl (lv_at hl 2 rfl) ?_
        refine lv_iload hx hb d_Re_takeAll_22 (lv_at hl 4 rfl) ?_
        refine lv_iadd hx hb d_Re_takeAll_24 ?_
        refine lv_topi (fun x_3 ex_3 => ?_)
        obtain rfl : x_3 = nI (o9 + i) := by rw [ex_3]; first | done | (exact nI_add _ _)
        refine va_lald hx hb hK hP 2 2 rfl rfl (vp_in_nI (by omega) (by omega)) d_Re_takeAll_25 ?_
        rw [show (nI (o9 + i)).toNatClampNeg = (o9 + i) from nI_clamp (by omega)]
        refine lv_aload_n hx hb d_Re_takeAll_26 rfl (lv_at hl 0 rfl) ?_
        refine va_get (D := (dC, dI)) (ci := 7) (v := .ref mb) (C := R_Re) (T := F_Re) (N := 5) hx hb hts i_Re hown hK hP 0 rfl rfl 0 (by decide) (hts _ gw_527) (fun _ h9 => h9) rfl d_Re_takeAll_27 ?_
        refine lv_iload hx hb d_Re_takeAll_30 (lv_at hl 4 rfl) ?_
        refine va_lald hx hb hK hP 1 2 rfl rfl (vp_in_nI (by omega) (by omega)) d_Re_takeAll_32 ?_
        rw [show (nI i).toNatClampNeg = i from nI_clamp (by omega)]
        refine lv_ldc2 (own := "PatchStore$Repository") hx hb hown (hts _ gw_866) d_Re_takeAll_33 ?_
        refine lv_lxor hx hb d_Re_takeAll_36 ?_
        refine lv_land hx hb d_Re_takeAll_37 ?_
        have hPc := hP.sub (ws' := []) [] rfl
        have hDc := hD.sub (ws' := []) [] (by decide) rfl
        have hFc := va_free (wc := []) hD hS hA [] rfl
        refine va_calli (va_runS (As := [.long ((rw9 (o9 + i)) &&& ((g9 i) ^^^ (-1)))]) (rest := [.int (sz0 + bcs (fun j => rw9 (o9 + j) &&& (mw j ^^^ (-1))) i), .ref h]) ⟨hx, hb, hml, hown, hts⟩ (m_Lg_bitCount l dC dI cI cB cL cZ cR ((rw9 (o9 + i)) &&& ((g9 i) ^^^ (-1))) H.size ) ⟨callB_of 1 hts (xg_in gw_1236) rfl rfl rfl (hts _ gw_36) (hts _ gw_1234) (by decide +kernel) ⟨Nat.le_of_ble_eq_true rfl, Nat.le_of_ble_eq_true rfl⟩, hts _ gw_1235⟩ ⟨xw_blind, fun U hU hW => ⟨rfl, by rw [hU], by rw [hU]; exact hPc, va_K.moved hW.alike hK, hDc.weaken (fun _ _ _ _ => trivial)⟩⟩ rfl rfl hl.1 rfl (lv_room (Nat.le_of_ble_eq_true rfl)) d_Re_takeAll_38 ⟨Nat.le_of_ble_eq_true rfl, Nat.le_of_ble_eq_true rfl⟩) hS (fun q _ h => hFc q h) hFc (fun r9 u t H1 locs ht hvm hw hB hz1 hk1 hS => ?_)
        obtain ⟨hP1, hK1, hD1⟩ := hB
        rw [ht] at hP1
        obtain ⟨hP, hD⟩ := va_join (wr := [(h, .inr (7, [.ref mb, rr_digest, .int (sz0 + bcs (fun j => rw9 (o9 + j) &&& (mw j ^^^ (-1))) i), .int vv, rr_digestVersion])), (mb, .inl (cL, 8, .inr (.inl g9))), (ro, .inl (cL, N1, .inr (.inl rw9)))]) (w1 := []) hP hD [] [0, 1, 2] rfl rfl (by decide) (by decide) hk1 hFc hP1 hD1
        generalize H1 = H at hP hS ⊢
        have hP : va_P (dC, dI) classes [(h, .inr (7, [.ref mb, rr_digest, .int (sz0 + bcs (fun j => rw9 (o9 + j) &&& (mw j ^^^ (-1))) i), .int vv, rr_digestVersion])), (mb, .inl (cL, 8, .inr (.inl g9))), (ro, .inl (cL, N1, .inr (.inl rw9)))] H := hP
        have hD : va_D A [(h, .inr (7, [.ref mb, rr_digest, .int (sz0 + bcs (fun j => rw9 (o9 + j) &&& (mw j ^^^ (-1))) i), .int vv, rr_digestVersion])), (mb, .inl (cL, 8, .inr (.inl g9))), (ro, .inl (cL, N1, .inr (.inl rw9)))] := hD
        subst hw
        refine lv_iadd hx hb d_Re_takeAll_41 ?_
        refine lv_topi (fun x_4 ex_4 => ?_)
        obtain rfl : x_4 = sz0 + bcs (fun j => rw9 (o9 + j) &&& (mw j ^^^ (-1))) (i + 1) := by rw [ex_4]; first | done | (rw [hq2 i (Nat.le_refl _), Int32.add_assoc]; rfl)
        refine va_put (D := (dC, dI)) (ci := 7) (v := .int (sz0 + bcs (fun j => rw9 (o9 + j) &&& (mw j ^^^ (-1))) (i + 1))) (ty := .int) (C := R_Re) (T := F_Re) (N := 5) hx hb hts i_Re t_Re t_Re_ok n_Re hown hK hP hD hS 0 rfl rfl 2 (by decide) (hts _ gw_531) (fun _ h9 => h9) rfl (by decide +kernel) rfl rfl (Nat.le_of_ble_eq_true rfl) d_Re_takeAll_42 (fun H locs hP hD hS => ?_)
        have hP : va_P (dC, dI) classes [(h, .inr (7, [.ref mb, rr_digest, .int (sz0 + bcs (fun j => rw9 (o9 + j) &&& (mw j ^^^ (-1))) (i + 1)), .int vv, rr_digestVersion])), (mb, .inl (cL, 8, .inr (.inl g9))), (ro, .inl (cL, N1, .inr (.inl rw9)))] H := hP
        have hD : va_D A [(h, .inr (7, [.ref mb, rr_digest, .int (sz0 + bcs (fun j => rw9 (o9 + j) &&& (mw j ^^^ (-1))) (i + 1)), .int vv, rr_digestVersion])), (mb, .inl (cL, 8, .inr (.inl g9))), (ro, .inl (cL, N1, .inr (.inl rw9)))] := hD
        refine lv_aload_n hx hb d_Re_takeAll_45 rfl (lv_at hl 0 rfl) ?_
        refine va_get (D := (dC, dI)) (ci := 7) (v := .ref mb) (C := R_Re) (T := F_Re) (N := 5) hx hb hts i_Re hown hK hP 0 rfl rfl 0 (by decide) (hts _ gw_527) (fun _ h9 => h9) rfl d_Re_takeAll_46 ?_
        refine lv_iload hx hb d_Re_takeAll_49 (lv_at hl 4 rfl) ?_
        refine lv_dup2_11 hx hb d_Re_takeAll_51 rfl rfl ?_
        refine va_lald hx hb hK hP 1 2 rfl rfl (vp_in_nI (by omega) (by omega)) d_Re_takeAll_52 ?_
        rw [show (nI i).toNatClampNeg = i from nI_clamp (by omega)]
        refine lv_aload_n hx hb d_Re_takeAll_53 rfl (lv_at hl 1 rfl) ?_
        refine lv_iload_n hx hb d_Re_takeAll_54 rfl (lv_at hl 2 rfl) ?_
        refine lv_iload hx hb d_Re_takeAll_55 (lv_at hl 4 rfl) ?_
        refine lv_iadd hx hb d_Re_takeAll_57 ?_
        refine lv_topi (fun x_5 ex_5 => ?_)
        obtain rfl : x_5 = nI (o9 + i) := by rw [ex_5]; first | done | (exact nI_add _ _)
        refine va_lald hx hb hK hP 2 2 rfl rfl (vp_in_nI (by omega) (by omega)) d_Re_takeAll_58 ?_
        rw [show (nI (o9 + i)).toNatClampNeg = (o9 + i) from nI_clamp (by omega)]
        refine lv_lor hx hb d_Re_takeAll_59 ?_
        refine va_last hx hb hK hP hD hS 1 2 rfl rfl (vp_in_nI (by omega) (by omega)) d_Re_takeAll_60 (fun H locs hP hD hS => ?_)
        rw [show (nI i).toNatClampNeg = i from nI_clamp (by omega)] at hP hD
        have hP : va_P (dC, dI) classes [(h, .inr (7, [.ref mb, rr_digest, .int (sz0 + bcs (fun j => rw9 (o9 + j) &&& (mw j ^^^ (-1))) (i + 1)), .int vv, rr_digestVersion])), (mb, .inl (cL, 8, .inr (.inl (vp_updL g9 i ((g9 i) ||| (rw9 (o9 + i))))))), (ro, .inl (cL, N1, .inr (.inl rw9)))] H := hP
        have hD : va_D A [(h, .inr (7, [.ref mb, rr_digest, .int (sz0 + bcs (fun j => rw9 (o9 + j) &&& (mw j ^^^ (-1))) (i + 1)), .int vv, rr_digestVersion])), (mb, .inl (cL, 8, .inr (.inl (vp_updL g9 i ((g9 i) ||| (rw9 (o9 + i))))))), (ro, .inl (cL, N1, .inr (.inl rw9)))] := hD
        refine lv_iinc (v := nI (i + 1)) (lv' := [(4, .int (nI (i + 1))), (0, .ref h), (1, .ref ro), (2, .int (nI o9)), (3, .int sz0)]) hx hb d_Re_takeAll_61 hl (k := 4) rfl (by exact nI_add _ _) (by decide) rfl (fun ls hl => ?_)
        refine lv_goto (tgt := 8) hx hb d_Re_takeAll_64 (by decide) ?_
        exact ih_8 (i + 1) (vp_updL g9 i ((g9 i) ||| (rw9 (o9 + i)))) _ _ _ (by omega) (by omega) (fun j z => if h9 : j = i then (by subst h9; rw [updL_eq, hq2 _ (Nat.le_refl _)]) else (updL_ne _ h9).trans (hq1 j (by omega))) (fun j z => (updL_ne _ (by omega)).trans (hq2 j (by omega))) hP hD hS (lv_sub hl [1, 2, 3, 4, 0] rfl)
  exact loop_8 _ 0 mw _ _ _ (Nat.lt_succ_self _) (Nat.zero_le _) (fun j z => absurd z (Nat.not_lt_zero _)) (fun _ _ => rfl) hP hD hS (lv_sub hl [2, 3, 4, 1, 0] rfl)
end
section
/-! 70.itself.lean.txt -/
theorem bt_self (v : Int64) : v &&& (v ^^^ (-1)) = 0 := (lg_cmp_eq _ _).mp ((bt_sub v v).mpr (fun _ _ h => h))
theorem bt_orself (v : Int64) : v ||| v = v := by
  apply Int64.toBitVec_inj.mp
  rw [Int64.toBitVec_or, BitVec.or_self]
set_option maxHeartbeats 4000000 in
set_option maxRecDepth 100000 in
/-- a set comes into itself -/
theorem m_Re_takeAlls (l : Launch) (dC : Nat → ClassId) (dI : Nat → Nat → Nat) (cI cB cL cZ cR : ClassId) (h mb : Nat) (rr_digest rr_version rr_digestVersion : Value) (mw : Nat → Int64) (sz0 : Int32) (sz : Nat) : Met l y_Re_takeAll ws_Re_takeAll ({ frames := 1, cells := 0, slots := 0, locals := 60 }) (xw_Pc dC dI [(cI, .int), (cB, .byte), (cL, .long), (cZ, .boolean), (cR, .object "PatchStore$Repository")] [.ref h, .ref mb, .int 0] [(h, .inr (7, [.ref mb, rr_digest, .int sz0, rr_version, rr_digestVersion])), (mb, .inl (cL, 8, .inr (.inl mw)))] sz) (va_Qi (fun (r : Int32) (u : Nat → Int64) => r = 0 ∧ ∀ j, j < 8 → u j = mw j) (fun u t => xw_B dC dI [(cI, .int), (cB, .byte), (cL, .long), (cZ, .boolean), (cR, .object "PatchStore$Repository")] (va_A [(h, .inr (7, [.ref mb, rr_digest, .int sz0, rr_version, rr_digestVersion])), (mb, .inl (cL, 8, .inr (.inl mw)))] sz) [(h, .inr (7, [.ref mb, rr_digest, .int sz0, rr_version, rr_digestVersion])), (mb, .inl (cL, 8, .inr (.inl u)))] t) (va_A [(h, .inr (7, [.ref mb, rr_digest, .int sz0, rr_version, rr_digestVersion])), (mb, .inl (cL, 8, .inr (.inl mw)))] sz)) 0 0 (va_A [(h, .inr (7, [.ref mb, rr_digest, .int sz0, rr_version, rr_digestVersion])), (mb, .inl (cL, 8, .inr (.inl mw)))] sz) := by
  refine Met.ofW (cc := prog_8_method_6_code) (maxL := 5) (ret := (Option.some Jvm.ClassFile.FieldType.int)) (by decide) rfl ?_
  intro p e s m args below meth c s₁ B hml hv
  obtain ⟨rfl, hsz, hP, hK, hD0⟩ := hv
  have hx := B.exec
  have hb := B.bytes
  have hr := B.returns
  have hts0 := atoms_spec (ws := ws_Re_takeAll) B.pre
  have hts : ∀ w ∈ xg_1, w.before _ s = true := fun w h => hts0 w (List.mem_cons_of_mem _ h)
  have hown : s.vm.findClass "PatchStore$Repository" = some m.cls := findClass_of_methodNamed B.named
  have hlocks := B.notSynchronized
  subst hsz
  have hD := hD0.self (sz := s.heap.size)
  generalize hAe : va_A [(h, .inr (7, [.ref mb, rr_digest, .int sz0, rr_version, rr_digestVersion])), (mb, .inl (cL, 8, .inr (.inl mw)))] s.heap.size = A at hD ⊢
  have hA : ∀ q : Nat, s.heap.size ≤ q → A q := fun q h => by rw [← hAe]; exact Or.inr h
  have hS : va_S A s.heap s.heap [] := va_S.rf
  have hl := lv_entry ([.ref h, .ref mb, .int 0]) (n := 5) (Nat.le_of_ble_eq_true rfl)
  rw [lg_entry_eq]
  generalize (lg_sl ([.ref h, .ref mb, .int 0]) ++ List.replicate (5 - (lg_sl ([.ref h, .ref mb, .int 0])).length) Slot.unset).toArray = ls at hl ⊢
  have hl : lv_has ls 5 [(0, .ref h), (1, .ref mb), (2, .int 0)] := hl
  generalize hQe : MQ _ _ _ _ _ _ _ = Q
  refine lv_aload_n hx hb d_Re_takeAll_0 rfl (lv_at hl 0 rfl) ?_
  refine va_get (D := (dC, dI)) (ci := 7) (v := .int sz0) (C := R_Re) (T := F_Re) (N := 5) hx hb hts i_Re hown hK hP 0 rfl rfl 2 (by decide) (hts _ gw_531) (fun _ h9 => h9) rfl d_Re_takeAll_1 ?_
  refine lv_istore_n (lv' := [(3, .int sz0), (0, .ref h), (1, .ref mb), (2, .int 0)]) hx hb d_Re_takeAll_4 rfl hl (by decide) rfl (fun ls hl => ?_)
  refine lv_iconst (v := 0) hx hb d_Re_takeAll_5 (by decide) ?_
  refine lv_istore (lv' := [(4, .int 0), (3, .int sz0), (0, .ref h), (1, .ref mb), (2, .int 0)]) hx hb d_Re_takeAll_6 hl (by decide) rfl (fun ls hl => ?_)
  have loop_8 : ∀ (n9 : Nat) (i : Nat) (g9 : Nat → Int64) (H : Heap) (locs : List Loc) (ls : Array Slot), 8 - i < n9 → (i ≤ 8) → (∀ j, j < 8 → g9 j = mw j) → va_P (dC, dI) classes [(h, .inr (7, [.ref mb, rr_digest, .int sz0, rr_version, rr_digestVersion])), (mb, .inl (cL, 8, .inr (.inl g9)))] H → va_D A [(h, .inr (7, [.ref mb, rr_digest, .int sz0, rr_version, rr_digestVersion])), (mb, .inl (cL, 8, .inr (.inl g9)))] → va_S A s.heap H locs → lv_has ls 5 [(0, .ref h), (1, .ref mb), (2, .int 0), (3, .int sz0), (4, .int (nI i))] → W p l e (headSpec ws_Re_takeAll ({ frames := 1, cells := 0, slots := 0, locals := 60 })).room s m ([.ref h, .ref mb, .int 0] : List Value).toArray below meth c H locs 0 0 Q (F0 m 8 ls []) := by
    intro n9
    induction n9 with
    | zero => intro i g9 H locs ls hm; exact absurd hm (Nat.not_lt_zero _)
    | succ n9 ih_8 =>
      intro i g9 H locs ls hm hi hq hP hD hS hl
      refine lv_iload hx hb d_Re_takeAll_8 (lv_at hl 4 rfl) ?_
      refine lv_bipush (v := 8) hx hb d_Re_takeAll_10 (by decide) ?_
      refine lv_icmp_ge (tgt := 67) hx hb d_Re_takeAll_12 (by decide) (fun c_12 => ?_) (fun c_12 => ?_)
      · have n_12 : 8 ≤ i := (nI_leI (a := 8) (b := i) (by omega) (by omega)).mp c_12
        refine lv_aload_n hx hb d_Re_takeAll_67 rfl (lv_at hl 0 rfl) ?_
        refine va_get (D := (dC, dI)) (ci := 7) (v := .int sz0) (C := R_Re) (T := F_Re) (N := 5) hx hb hts i_Re hown hK hP 0 rfl rfl 2 (by decide) (hts _ gw_531) (fun _ h9 => h9) rfl d_Re_takeAll_68 ?_
        refine lv_iload_n hx hb d_Re_takeAll_71 rfl (lv_at hl 3 rfl) ?_
        refine lv_icmp_eq (tgt := 85) hx hb d_Re_takeAll_72 (by decide) (fun _ => ?_) (fun c_72 => absurd (rfl) c_72)
        refine lv_aload_n hx hb d_Re_takeAll_85 rfl (lv_at hl 0 rfl) ?_
        refine va_get (D := (dC, dI)) (ci := 7) (v := .int sz0) (C := R_Re) (T := F_Re) (N := 5) hx hb hts i_Re hown hK hP 0 rfl rfl 2 (by decide) (hts _ gw_531) (fun _ h9 => h9) rfl d_Re_takeAll_86 ?_
        refine lv_iload_n hx hb d_Re_takeAll_89 rfl (lv_at hl 3 rfl) ?_
        refine lv_isub hx hb d_Re_takeAll_90 ?_
        refine lv_topi (fun x_1 ex_1 => ?_)
        obtain rfl : x_1 = 0 := by rw [ex_1]; first | done | (exact Int32.sub_self _)
        rw [← hQe]
        exact W.iret (v := 0) hx hb hr (fun t ht hW => ⟨⟨_, g9, rfl, ⟨rfl, hq⟩, by rw [ht]; exact hP, va_K.moved hW.alike hK, hD⟩, hS.F ht⟩) hS.2.2 d_Re_takeAll_91
      · have n_12 : i < 8 := Nat.lt_of_not_le (fun z => c_12 ((nI_leI (a := 8) (b := i) (by omega) (by omega)).mpr z))
        refine lv_aload_n hx hb d_Re_takeAll_15 rfl (lv_at hl 0 rfl) ?_
        refine lv_dup hx hb d_Re_takeAll_16 rfl ?_
        refine va_get (D := (dC, dI)) (ci := 7) (v := .int sz0) (C := R_Re) (T := F_Re) (N := 5) hx hb hts i_Re hown hK hP 0 rfl rfl 2 (by decide) (hts _ gw_531) (fun _ h9 => h9) rfl d_Re_takeAll_17 ?_
        refine lv_aload_n hx hb d_Re_takeAll_20 rfl (lv_at hl 1 rfl) ?_
        refine lv_iload_n hx hb d_Re_takeAll_21 rfl (lv_at hl 2 rfl) ?_
        refine lv_iload hx hb d_Re_takeAll_22 (lv_at hl 4 rfl) ?_
        refine lv_iadd hx hb d_Re_takeAll_24 ?_
        refine lv_topi (fun x_2 ex_2 => ?_)
        obtain rfl : x_2 = nI (0 + i) := by rw [ex_2]; first | done | (exact nI_add _ _)
        refine va_lald hx hb hK hP 1 2 rfl rfl (vp_in_nI (by omega) (by omega)) d_Re_takeAll_25 ?_
        rw [show (nI (0 + i)).toNatClampNeg = (0 + i) from nI_clamp (by omega)]
        refine lv_aload_n hx hb d_Re_takeAll_26 rfl (lv_at hl 0 rfl) ?_
        refine va_get (D := (dC, dI)) (ci := 7) (v := .ref mb) (C := R_Re) (T := F_Re) (N := 5) hx hb hts i_Re hown hK hP 0 rfl rfl 0 (by decide) (hts _ gw_527) (fun _ h9 => h9) rfl d_Re_takeAll_27 ?_
        refine lv_iload hx hb d_Re_takeAll_30 (lv_at hl 4 rfl) ?_
        refine va_lald hx hb hK hP 1 2 rfl rfl (vp_in_nI (by omega) (by omega)) d_Re_takeAll_32 ?_
        rw [show (nI i).toNatClampNeg = i from nI_clamp (by omega)]
        refine lv_ldc2 (own := "PatchStore$Repository") hx hb hown (hts _ gw_866) d_Re_takeAll_33 ?_
        refine lv_lxor hx hb d_Re_takeAll_36 ?_
        refine lv_land hx hb d_Re_takeAll_37 ?_
        have hPc := hP.sub (ws' := []) [] rfl
        have hDc := hD.sub (ws' := []) [] (by decide) rfl
        have hFc := va_free (wc := []) hD hS hA [] rfl
        refine va_calli (va_runS (As := [.long ((g9 (0 + i)) &&& ((g9 i) ^^^ (-1)))]) (rest := [.int sz0, .ref h]) ⟨hx, hb, hml, hown, hts⟩ (m_Lg_bitCount l dC dI cI cB cL cZ cR ((g9 (0 + i)) &&& ((g9 i) ^^^ (-1))) H.size ) ⟨callB_of 1 hts (xg_in gw_1236) rfl rfl rfl (hts _ gw_36) (hts _ gw_1234) (by decide +kernel) ⟨Nat.le_of_ble_eq_true rfl, Nat.le_of_ble_eq_true rfl⟩, hts _ gw_1235⟩ ⟨xw_blind, fun U hU hW => ⟨rfl, by rw [hU], by rw [hU]; exact hPc, va_K.moved hW.alike hK, hDc.weaken (fun _ _ _ _ => trivial)⟩⟩ rfl rfl hl.1 rfl (lv_room (Nat.le_of_ble_eq_true rfl)) d_Re_takeAll_38 ⟨Nat.le_of_ble_eq_true rfl, Nat.le_of_ble_eq_true rfl⟩) hS (fun q _ h => hFc q h) hFc (fun r9 u t H1 locs ht hvm hw hB hz1 hk1 hS => ?_)
        obtain ⟨hP1, hK1, hD1⟩ := hB
        rw [ht] at hP1
        obtain ⟨hP, hD⟩ := va_join (wr := [(h, .inr (7, [.ref mb, rr_digest, .int sz0, rr_version, rr_digestVersion])), (mb, .inl (cL, 8, .inr (.inl g9)))]) (w1 := []) hP hD [] [0, 1] rfl rfl (by decide) (by decide) hk1 hFc hP1 hD1
        generalize H1 = H at hP hS ⊢
        have hP : va_P (dC, dI) classes [(h, .inr (7, [.ref mb, rr_digest, .int sz0, rr_version, rr_digestVersion])), (mb, .inl (cL, 8, .inr (.inl g9)))] H := hP
        have hD : va_D A [(h, .inr (7, [.ref mb, rr_digest, .int sz0, rr_version, rr_digestVersion])), (mb, .inl (cL, 8, .inr (.inl g9)))] := hD
        subst hw
        refine lv_iadd hx hb d_Re_takeAll_41 ?_
        rw [show g9 (0 + i) = g9 i from by rw [Nat.zero_add], bt_self, bc_0, Int32.add_zero]
        refine va_put (D := (dC, dI)) (ci := 7) (v := .int sz0) (ty := .int) (C := R_Re) (T := F_Re) (N := 5) hx hb hts i_Re t_Re t_Re_ok n_Re hown hK hP hD hS 0 rfl rfl 2 (by decide) (hts _ gw_531) (fun _ h9 => h9) rfl (by decide +kernel) rfl rfl (Nat.le_of_ble_eq_true rfl) d_Re_takeAll_42 (fun H locs hP hD hS => ?_)
        have hP : va_P (dC, dI) classes [(h, .inr (7, [.ref mb, rr_digest, .int sz0, rr_version, rr_digestVersion])), (mb, .inl (cL, 8, .inr (.inl g9)))] H := hP
        have hD : va_D A [(h, .inr (7, [.ref mb, rr_digest, .int sz0, rr_version, rr_digestVersion])), (mb, .inl (cL, 8, .inr (.inl g9)))] := hD
        refine lv_aload_n hx hb d_Re_takeAll_45 rfl (lv_at hl 0 rfl) ?_
        refine va_get (D := (dC, dI)) (ci := 7) (v := .ref mb) (C := R_Re) (T := F_Re) (N := 5) hx hb hts i_Re hown hK hP 0 rfl rfl 0 (by decide) (hts _ gw_527) (fun _ h9 => h9) rfl d_Re_takeAll_46 ?_
        refine lv_iload hx hb d_Re_takeAll_49 (lv_at hl 4 rfl) ?_
        refine lv_dup2_11 hx hb d_Re_takeAll_51 rfl rfl ?_
        refine va_lald hx hb hK hP 1 2 rfl rfl (vp_in_nI (by omega) (by omega)) d_Re_takeAll_52 ?_
        rw [show (nI i).toNatClampNeg = i from nI_clamp (by omega)]
        refine lv_aload_n hx hb d_Re_takeAll_53 rfl (lv_at hl 1 rfl) ?_
        refine lv_iload_n hx hb d_Re_takeAll_54 rfl (lv_at hl 2 rfl) ?_
        refine lv_iload hx hb d_Re_takeAll_55 (lv_at hl 4 rfl) ?_
        refine lv_iadd hx hb d_Re_takeAll_57 ?_
        refine lv_topi (fun x_3 ex_3 => ?_)
        obtain rfl : x_3 = nI (0 + i) := by rw [ex_3]; first | done | (exact nI_add _ _)
        refine va_lald hx hb hK hP 1 2 rfl rfl (vp_in_nI (by omega) (by omega)) d_Re_takeAll_58 ?_
        rw [show (nI (0 + i)).toNatClampNeg = (0 + i) from nI_clamp (by omega)]
        refine lv_lor hx hb d_Re_takeAll_59 ?_
        refine va_last hx hb hK hP hD hS 1 2 rfl rfl (vp_in_nI (by omega) (by omega)) d_Re_takeAll_60 (fun H locs hP hD hS => ?_)
        rw [show (nI i).toNatClampNeg = i from nI_clamp (by omega)] at hP hD
        have hP : va_P (dC, dI) classes [(h, .inr (7, [.ref mb, rr_digest, .int sz0, rr_version, rr_digestVersion])), (mb, .inl (cL, 8, .inr (.inl (vp_updL g9 i ((g9 i) ||| (g9 (0 + i)))))))] H := hP
        have hD : va_D A [(h, .inr (7, [.ref mb, rr_digest, .int sz0, rr_version, rr_digestVersion])), (mb, .inl (cL, 8, .inr (.inl (vp_updL g9 i ((g9 i) ||| (g9 (0 + i)))))))] := hD
        refine lv_iinc (v := nI (i + 1)) (lv' := [(4, .int (nI (i + 1))), (0, .ref h), (1, .ref mb), (2, .int 0), (3, .int sz0)]) hx hb d_Re_takeAll_61 hl (k := 4) rfl (by exact nI_add _ _) (by decide) rfl (fun ls hl => ?_)
        refine lv_goto (tgt := 8) hx hb d_Re_takeAll_64 (by decide) ?_
        exact ih_8 (i + 1) (vp_updL g9 i ((g9 i) ||| (g9 (0 + i)))) _ _ _ (by omega) (by omega) (fun j z => if h9 : j = i then (by subst h9; rw [updL_eq, Nat.zero_add, bt_orself]; exact hq _ z) else (updL_ne _ h9).trans (hq j z)) hP hD hS (lv_sub hl [1, 2, 3, 4, 0] rfl)
  exact loop_8 _ 0 mw _ _ _ (Nat.lt_succ_self _) (Nat.zero_le _) (fun _ _ => rfl) hP hD hS (lv_sub hl [2, 3, 4, 1, 0] rfl)
end
section
/-! 71.resolveAll.lean.txt -/
theorem gw_90 : (Jvm.Cond.fieldLink "PatchStore$Intake" (160 : Nat) "PatchStore$Changes" "at" "[I") ∈ xg_1 := xg_s1 90 rfl rfl
theorem gw_93 : (Jvm.Cond.fieldLink "PatchStore$Intake" (154 : Nat) "PatchStore$Changes" "patch" "[I") ∈ xg_1 := xg_s1 93 rfl rfl
theorem gw_112 : (Jvm.Cond.fieldLink "PatchStore$Intake" (135 : Nat) "PatchStore$Changes" "files" "I") ∈ xg_1 := xg_s1 112 rfl rfl
theorem gw_162 : (Jvm.Cond.fieldLink "PatchStore$Intake" (143 : Nat) "PatchStore$Lines" "total" "I") ∈ xg_1 := xg_s1 162 rfl rfl
theorem gw_871 : (Jvm.Cond.methodLink "PatchStore$Intake" (129 : Nat) ({ cls := "java/util/Arrays", name := "fill", desc := "([II)V" } : Jvm.MethodName)) ∈ xg_1 := xg_s4 151 rfl rfl
theorem gw_872 : (Jvm.Cond.methodLink "PatchStore$Intake" (163 : Nat) ({ cls := "PatchStore$Intake", name := "resolve", desc := "(II)I" } : Jvm.MethodName)) ∈ xg_1 := xg_s4 152 rfl rfl
theorem gw_874 : (Jvm.Cond.instanceMethod ({ cls := "PatchStore$Intake", name := "resolve", desc := "(II)I" } : Jvm.MethodName)) ∈ xg_1 := xg_s4 154 rfl rfl
theorem gw_875 : (Jvm.Cond.code ({ cls := "PatchStore$Intake", name := "resolve", desc := "(II)I" } : Jvm.MethodName) prog_4_method_6_code (3 : Nat) (Option.some Jvm.ClassFile.FieldType.int)) ∈ xg_1 := xg_s4 155 rfl rfl
def y_In_resolveAll : MethodName := ⟨"PatchStore$Intake", "resolveAll", "()Z"⟩
abbrev c_In_resolveAll : Cond := (Jvm.Cond.code ({ cls := "PatchStore$Intake", name := "resolveAll", desc := "()Z" } : Jvm.MethodName) prog_4_method_5_code (2 : Nat) (Option.some Jvm.ClassFile.FieldType.boolean))
abbrev ws_In_resolveAll : List Cond := c_In_resolveAll :: xg_1
theorem d_In_resolveAll_0 : decode prog_4_method_5_code 0 = .ok (.aload_n 0, 1) := by decide +kernel
theorem d_In_resolveAll_1 : decode prog_4_method_5_code 1 = .ok (.getfield 9, 3) := by decide +kernel
theorem d_In_resolveAll_4 : decode prog_4_method_5_code 4 = .ok (.iconst 0, 1) := by decide +kernel
theorem d_In_resolveAll_5 : decode prog_4_method_5_code 5 = .ok (.invokestatic 129, 3) := by decide +kernel
theorem d_In_resolveAll_8 : decode prog_4_method_5_code 8 = .ok (.aload_n 0, 1) := by decide +kernel
theorem d_In_resolveAll_9 : decode prog_4_method_5_code 9 = .ok (.aload_n 0, 1) := by decide +kernel
theorem d_In_resolveAll_10 : decode prog_4_method_5_code 10 = .ok (.getfield 28, 3) := by decide +kernel
theorem d_In_resolveAll_13 : decode prog_4_method_5_code 13 = .ok (.getfield 135, 3) := by decide +kernel
theorem d_In_resolveAll_16 : decode prog_4_method_5_code 16 = .ok (.putfield 140, 3) := by decide +kernel
theorem d_In_resolveAll_19 : decode prog_4_method_5_code 19 = .ok (.aload_n 0, 1) := by decide +kernel
theorem d_In_resolveAll_20 : decode prog_4_method_5_code 20 = .ok (.aload_n 0, 1) := by decide +kernel
theorem d_In_resolveAll_21 : decode prog_4_method_5_code 21 = .ok (.getfield 33, 3) := by decide +kernel
theorem d_In_resolveAll_24 : decode prog_4_method_5_code 24 = .ok (.getfield 143, 3) := by decide +kernel
theorem d_In_resolveAll_27 : decode prog_4_method_5_code 27 = .ok (.putfield 148, 3) := by decide +kernel
theorem d_In_resolveAll_30 : decode prog_4_method_5_code 30 = .ok (.aload_n 0, 1) := by decide +kernel
theorem d_In_resolveAll_31 : decode prog_4_method_5_code 31 = .ok (.getfield 18, 3) := by decide +kernel
theorem d_In_resolveAll_34 : decode prog_4_method_5_code 34 = .ok (.getfield 151, 3) := by decide +kernel
theorem d_In_resolveAll_37 : decode prog_4_method_5_code 37 = .ok (.aload_n 0, 1) := by decide +kernel
theorem d_In_resolveAll_38 : decode prog_4_method_5_code 38 = .ok (.getfield 18, 3) := by decide +kernel
theorem d_In_resolveAll_41 : decode prog_4_method_5_code 41 = .ok (.getfield 84, 3) := by decide +kernel
theorem d_In_resolveAll_44 : decode prog_4_method_5_code 44 = .ok (.iaload, 1) := by decide +kernel
theorem d_In_resolveAll_45 : decode prog_4_method_5_code 45 = .ok (.istore_n 1, 1) := by decide +kernel
theorem d_In_resolveAll_46 : decode prog_4_method_5_code 46 = .ok (.iload_n 1, 1) := by decide +kernel
theorem d_In_resolveAll_47 : decode prog_4_method_5_code 47 = .ok (.aload_n 0, 1) := by decide +kernel
theorem d_In_resolveAll_48 : decode prog_4_method_5_code 48 = .ok (.getfield 18, 3) := by decide +kernel
theorem d_In_resolveAll_51 : decode prog_4_method_5_code 51 = .ok (.getfield 151, 3) := by decide +kernel
theorem d_In_resolveAll_54 : decode prog_4_method_5_code 54 = .ok (.aload_n 0, 1) := by decide +kernel
theorem d_In_resolveAll_55 : decode prog_4_method_5_code 55 = .ok (.getfield 18, 3) := by decide +kernel
theorem d_In_resolveAll_58 : decode prog_4_method_5_code 58 = .ok (.getfield 84, 3) := by decide +kernel
theorem d_In_resolveAll_61 : decode prog_4_method_5_code 61 = .ok (.iconst 1, 1) := by decide +kernel
theorem d_In_resolveAll_62 : decode prog_4_method_5_code 62 = .ok (.iadd, 1) := by decide +kernel
theorem d_In_resolveAll_63 : decode prog_4_method_5_code 63 = .ok (.iaload, 1) := by decide +kernel
theorem d_In_resolveAll_64 : decode prog_4_method_5_code 64 = .ok (.if_icmp .ge 63, 3) := by decide +kernel
theorem d_In_resolveAll_67 : decode prog_4_method_5_code 67 = .ok (.aload_n 0, 1) := by decide +kernel
theorem d_In_resolveAll_68 : decode prog_4_method_5_code 68 = .ok (.getfield 28, 3) := by decide +kernel
theorem d_In_resolveAll_71 : decode prog_4_method_5_code 71 = .ok (.getfield 154, 3) := by decide +kernel
theorem d_In_resolveAll_74 : decode prog_4_method_5_code 74 = .ok (.iload_n 1, 1) := by decide +kernel
theorem d_In_resolveAll_75 : decode prog_4_method_5_code 75 = .ok (.aload_n 0, 1) := by decide +kernel
theorem d_In_resolveAll_76 : decode prog_4_method_5_code 76 = .ok (.getfield 18, 3) := by decide +kernel
theorem d_In_resolveAll_79 : decode prog_4_method_5_code 79 = .ok (.getfield 84, 3) := by decide +kernel
theorem d_In_resolveAll_82 : decode prog_4_method_5_code 82 = .ok (.iastore, 1) := by decide +kernel
theorem d_In_resolveAll_83 : decode prog_4_method_5_code 83 = .ok (.aload_n 0, 1) := by decide +kernel
theorem d_In_resolveAll_84 : decode prog_4_method_5_code 84 = .ok (.getfield 28, 3) := by decide +kernel
theorem d_In_resolveAll_87 : decode prog_4_method_5_code 87 = .ok (.getfield 157, 3) := by decide +kernel
theorem d_In_resolveAll_90 : decode prog_4_method_5_code 90 = .ok (.iload_n 1, 1) := by decide +kernel
theorem d_In_resolveAll_91 : decode prog_4_method_5_code 91 = .ok (.aload_n 0, 1) := by decide +kernel
theorem d_In_resolveAll_92 : decode prog_4_method_5_code 92 = .ok (.iload_n 1, 1) := by decide +kernel
theorem d_In_resolveAll_93 : decode prog_4_method_5_code 93 = .ok (.aload_n 0, 1) := by decide +kernel
theorem d_In_resolveAll_94 : decode prog_4_method_5_code 94 = .ok (.getfield 28, 3) := by decide +kernel
theorem d_In_resolveAll_97 : decode prog_4_method_5_code 97 = .ok (.getfield 160, 3) := by decide +kernel
theorem d_In_resolveAll_100 : decode prog_4_method_5_code 100 = .ok (.iload_n 1, 1) := by decide +kernel
theorem d_In_resolveAll_101 : decode prog_4_method_5_code 101 = .ok (.iaload, 1) := by decide +kernel
theorem d_In_resolveAll_102 : decode prog_4_method_5_code 102 = .ok (.invokevirtual 163, 3) := by decide +kernel
theorem d_In_resolveAll_105 : decode prog_4_method_5_code 105 = .ok (.iastore, 1) := by decide +kernel
theorem d_In_resolveAll_106 : decode prog_4_method_5_code 106 = .ok (.aload_n 0, 1) := by decide +kernel
theorem d_In_resolveAll_107 : decode prog_4_method_5_code 107 = .ok (.getfield 28, 3) := by decide +kernel
theorem d_In_resolveAll_110 : decode prog_4_method_5_code 110 = .ok (.getfield 157, 3) := by decide +kernel
theorem d_In_resolveAll_113 : decode prog_4_method_5_code 113 = .ok (.iload_n 1, 1) := by decide +kernel
theorem d_In_resolveAll_114 : decode prog_4_method_5_code 114 = .ok (.iaload, 1) := by decide +kernel
theorem d_In_resolveAll_115 : decode prog_4_method_5_code 115 = .ok (.iconst (-1), 1) := by decide +kernel
theorem d_In_resolveAll_116 : decode prog_4_method_5_code 116 = .ok (.if_icmp .ne 5, 3) := by decide +kernel
theorem d_In_resolveAll_119 : decode prog_4_method_5_code 119 = .ok (.iconst 0, 1) := by decide +kernel
theorem d_In_resolveAll_120 : decode prog_4_method_5_code 120 = .ok (.ireturn, 1) := by decide +kernel
theorem d_In_resolveAll_121 : decode prog_4_method_5_code 121 = .ok (.iinc 1 1, 3) := by decide +kernel
theorem d_In_resolveAll_124 : decode prog_4_method_5_code 124 = .ok (.goto (-78), 3) := by decide +kernel
theorem d_In_resolveAll_127 : decode prog_4_method_5_code 127 = .ok (.iconst 1, 1) := by decide +kernel
theorem d_In_resolveAll_128 : decode prog_4_method_5_code 128 = .ok (.ireturn, 1) := by decide +kernel
def upN (g : Nat → Nat) (k v : Nat) : Nat → Nat := fun i => if i = k then v else g i
theorem upN_eq (g : Nat → Nat) (k v : Nat) : upN g k v k = v := if_pos rfl
theorem upN_ne (g : Nat → Nat) {k j v : Nat} (h : ¬ j = k) : upN g k v j = g j := if_neg h
/-- the number of lines in front of the j-th change of the candidate -/
def NLs (f : Nat → Int32) (CA : Nat → Nat) (c0 NL0 : Nat) : Nat → Nat
  | 0 => NL0
  | j + 1 => NLX f (NLs f CA c0 NL0 j) (CA (c0 + j))
/-- the number of files in front of the j-th change of the candidate -/
def NFs (f : Nat → Int32) (CA : Nat → Nat) (c0 NF0 : Nat) : Nat → Nat
  | 0 => NF0
  | j + 1 => NFX f (NFs f CA c0 NF0 j) (CA (c0 + j))
/-- which dependencies the first j changes of the candidate name -/
def nmXs (f : Nat → Int32) (nd : Nat) (CA : Nat → Nat) (c0 : Nat) : Nat → (Nat → Int32) → Nat → Int32
  | 0, g => g
  | j + 1, g => nmX f nd (CA (c0 + j)) (nmXs f nd CA c0 j g)
/-- the first line of each insert, those of the candidate among them -/
def clX (f : Nat → Int32) (CA CL : Nat → Nat) (c0 NL0 i : Nat) : Nat := if i < c0 then CL i else NLs f CA c0 NL0 (i - c0)
/-- the first j changes of the candidate have the files that CF says -/
def rsA (f : Nat → Int32) (DP FC CA CF CL : Nat → Nat) (P nd c0 NF0 j : Nat) : Prop := ∀ i, i < j → rsR f DP FC CA CF CL P nd (c0 + i) (NFs f CA c0 NF0 i) (CA (c0 + i)) (CF (c0 + i))
theorem NFs_le (f : Nat → Int32) (CA : Nat → Nat) (c0 NF0 : Nat) : ∀ j, NFs f CA c0 NF0 j ≤ NF0 + j
  | 0 => Nat.le_refl _
  | j + 1 => by
    have := NFs_le f CA c0 NF0 j
    show (if f (CA (c0 + j)) = 0 then NFs f CA c0 NF0 j + 1 else NFs f CA c0 NF0 j) ≤ _
    split <;> omega
theorem NFs_mono (f : Nat → Int32) (CA : Nat → Nat) (c0 NF0 : Nat) {i : Nat} : ∀ {j}, i ≤ j → NFs f CA c0 NF0 i ≤ NFs f CA c0 NF0 j
  | 0, h => by rw [show i = 0 by omega]; exact Nat.le_refl _
  | j + 1, h => by
    rcases Nat.lt_or_ge i (j + 1) with h1 | h1
    · have := NFs_mono f CA c0 NF0 (i := i) (j := j) (by omega)
      refine Nat.le_trans this ?_
      show _ ≤ (if f (CA (c0 + j)) = 0 then NFs f CA c0 NF0 j + 1 else NFs f CA c0 NF0 j)
      split <;> omega
    · rw [show i = j + 1 by omega]; exact Nat.le_refl _
theorem NLs_mono (f : Nat → Int32) (CA : Nat → Nat) (c0 NL0 : Nat) {i : Nat} : ∀ {j}, i ≤ j → NLs f CA c0 NL0 i ≤ NLs f CA c0 NL0 j
  | 0, h => by rw [show i = 0 by omega]; exact Nat.le_refl _
  | j + 1, h => by
    rcases Nat.lt_or_ge i (j + 1) with h1 | h1
    · have := NLs_mono f CA c0 NL0 (i := i) (j := j) (by omega)
      refine Nat.le_trans this ?_
      show _ ≤ (if f (CA (c0 + j)) = 2 then NLs f CA c0 NL0 j + tw f (lnAt f (CA (c0 + j))) else NLs f CA c0 NL0 j)
      split <;> omega
    · rw [show i = j + 1 by omega]; exact Nat.le_refl _
theorem fnR.cg {f : Nat → Int32} {DP FC CA CF CF₇ : Nat → Nat} {P nd cc k y : Nat} (hD : ∀ i, i < nd → DP i < P) (hL : ∀ i, i < P → FC (i + 1) ≤ cc) (e : ∀ i, i < cc → CF i = CF₇ i) (h : fnR f DP FC CA CF P nd cc k y) : fnR f DP FC CA CF₇ P nd cc k y := by
  obtain ⟨x, z1, z2, rfl⟩ := h
  exact ⟨x, z1, z2, e x (cnR.lt hD hL z1)⟩
theorem flR.cg {f : Nat → Int32} {DP FC CA CF CF₇ : Nat → Nat} {P nd cc k y : Nat} (hD : ∀ i, i < nd → DP i < P) (hL : ∀ i, i < P → FC (i + 1) ≤ cc) (e : ∀ i, i < cc → CF i = CF₇ i) (h : flR f DP FC CA CF P nd cc k y) : flR f DP FC CA CF₇ P nd cc k y := by
  obtain ⟨x, z1, z2, z3, rfl⟩ := h
  exact ⟨x, z1, z2, z3, e x (cnR.lt hD hL z1)⟩
theorem rsR.cg {f : Nat → Int32} {DP FC CA CF CF₇ CL : Nat → Nat} {P nd cc NF a y : Nat} (hD : ∀ i, i < nd → DP i < P) (hL : ∀ i, i < P → FC (i + 1) ≤ cc) (e : ∀ i, i < cc → CF i = CF₇ i) (h : rsR f DP FC CA CF CL P nd cc NF a y) : rsR f DP FC CA CF₇ CL P nd cc NF a y := by
  rcases h with h | ⟨h, r⟩ | ⟨h, r⟩ | ⟨h, r⟩ | ⟨h, r⟩
  · exact Or.inl h
  · refine Or.inr (Or.inl ⟨h, r.1.cg hD hL e, fun i z => ?_⟩)
    obtain ⟨x, z1, z2, z3, z4⟩ := r.2 i z
    exact ⟨x, z1, z2, (e x (cnR.lt hD hL z1)).symm.trans z3, z4⟩
  · exact Or.inr (Or.inr (Or.inl ⟨h, r.1.cg hD hL e, fun z => (r.2.1 z).cg hD hL e, fun z => (r.2.2 z).cg hD hL e⟩))
  · exact Or.inr (Or.inr (Or.inr (Or.inl ⟨h, r.cg hD hL e⟩)))
  · exact Or.inr (Or.inr (Or.inr (Or.inr ⟨h, r.1.cg hD hL e, r.2.1.cg hD hL e, r.2.2⟩)))
theorem rsR.uniq {f : Nat → Int32} {DP FC CA CF CL : Nat → Nat} {P nd cc NF a y z : Nat} (hnd : nd ≤ 2048) (h1 : rsR f DP FC CA CF CL P nd cc NF a y) (h2 : rsR f DP FC CA CF CL P nd cc NF a z) : y = z := by
  rcases h1 with ⟨h, r⟩ | ⟨h, r⟩ | ⟨h, r⟩ | ⟨h, r⟩ | ⟨h, r⟩
  · rcases h2 with ⟨h2, r2⟩ | ⟨h2, r2⟩ | ⟨h2, r2⟩ | ⟨h2, r2⟩ | ⟨h2, r2⟩
    · exact r.trans r2.symm
    all_goals (rw [h] at h2; exact absurd h2 (by decide))
  · exact fnR.uniq hnd r.1 (rsR_1 h h2).1
  · exact fnR.uniq hnd r.1 (rsR_2 h h2).1
  · exact flR.uniq hnd r (rsR_3 h h2)
  · exact flR.uniq hnd r.1 (rsR_4 h h2).1
theorem rsR.lt {f : Nat → Int32} {DP FC CA CF CL : Nat → Nat} {P nd cc NF a y M : Nat} (hD : ∀ i, i < nd → DP i < P) (hL : ∀ i, i < P → FC (i + 1) ≤ cc) (hC : ∀ i, i < cc → CF i < M) (hN : f a = 0 → NF < M) (h : rsR f DP FC CA CF CL P nd cc NF a y) : y < M := by
  have g1 : ∀ k, fnR f DP FC CA CF P nd cc k y → y < M := fun k ⟨x, z1, _, z⟩ => z ▸ hC x (cnR.lt hD hL z1)
  have g2 : ∀ k, flR f DP FC CA CF P nd cc k y → y < M := fun k ⟨x, z1, _, _, z⟩ => z ▸ hC x (cnR.lt hD hL z1)
  rcases h with ⟨h, r⟩ | ⟨h, r⟩ | ⟨h, r⟩ | ⟨h, r⟩ | ⟨h, r⟩
  · exact r ▸ hN h
  · exact g1 _ r.1
  · exact g1 _ r.1
  · exact g2 _ r
  · exact g2 _ r.1
theorem rsA.step {f : Nat → Int32} {DP FC CA CF CL : Nat → Nat} {P nd c0 NF0 j y : Nat} (hD : ∀ i, i < nd → DP i < P) (hL : ∀ i, i < P → FC (i + 1) ≤ c0) (h : rsA f DP FC CA CF CL P nd c0 NF0 j) (hy : rsR f DP FC CA CF CL P nd (c0 + j) (NFs f CA c0 NF0 j) (CA (c0 + j)) y) : rsA f DP FC CA (upN CF (c0 + j) y) CL P nd c0 NF0 (j + 1) := by
  intro i hi
  have hL' : ∀ q, q < P → FC (q + 1) ≤ c0 + i := fun q z => Nat.le_trans (hL q z) (by omega)
  have e9 : ∀ q, q < c0 + i → CF q = upN CF (c0 + j) y q := fun q z => (upN_ne CF (by omega)).symm
  by_cases e : i = j
  · subst e
    rw [upN_eq]
    exact hy.cg hD hL' e9
  · rw [upN_ne CF (by omega)]
    exact (h i (by omega)).cg hD hL' e9
theorem rsA.same {f : Nat → Int32} {DP FC CA CF CF₇ CL : Nat → Nat} {P nd c0 NF0 j : Nat} (hnd : nd ≤ 2048) (hD : ∀ i, i < nd → DP i < P) (hL : ∀ i, i < P → FC (i + 1) ≤ c0) (h0 : ∀ i, i < c0 → CF i = CF₇ i) (h : rsA f DP FC CA CF CL P nd c0 NF0 j) (h' : rsA f DP FC CA CF₇ CL P nd c0 NF0 j) : ∀ i, i < c0 + j → CF i = CF₇ i := by
  intro i
  induction i using Nat.strongRecOn with
  | _ i ih =>
    intro hi
    rcases Nat.lt_or_ge i c0 with z | z
    · exact h0 i z
    · obtain ⟨q, rfl⟩ : ∃ q, i = c0 + q := ⟨i - c0, by omega⟩
      have hL' : ∀ r, r < P → FC (r + 1) ≤ c0 + q := fun r z => Nat.le_trans (hL r z) (by omega)
      exact rsR.uniq hnd ((h q (by omega)).cg hD hL' (fun r z => ih r z (by omega))) (h' q (by omega))
theorem rsA.no {f : Nat → Int32} {DP FC CA CF CF1 CL : Nat → Nat} {P nd c0 NF0 j T : Nat} (hnd : nd ≤ 2048) (hD : ∀ i, i < nd → DP i < P) (hL : ∀ i, i < P → FC (i + 1) ≤ c0) (h1 : ∀ i, i < c0 → CF1 i = CF i) (h2 : rsA f DP FC CA CF1 CL P nd c0 NF0 j) (hT : j < T) (hno : ∀ q, ¬ rsR f DP FC CA CF1 CL P nd (c0 + j) (NFs f CA c0 NF0 j) (CA (c0 + j)) q) : ¬ ∃ CF₇, (∀ i, i < c0 → CF₇ i = CF i) ∧ rsA f DP FC CA CF₇ CL P nd c0 NF0 T := by
  rintro ⟨CF₇, g1, g2⟩
  have g3 : ∀ i, i < c0 + j → CF₇ i = CF1 i := rsA.same hnd hD hL (fun i z => (g1 i z).trans (h1 i z).symm) (fun i z => g2 i (by omega)) h2
  exact hno _ ((g2 j hT).cg hD (fun r z => Nat.le_trans (hL r z) (by omega)) g3)
theorem rsA.lt {f : Nat → Int32} {DP FC CA CF CL : Nat → Nat} {P nd c0 NF0 j : Nat} (hD : ∀ i, i < nd → DP i < P) (hL : ∀ i, i < P → FC (i + 1) ≤ c0) (h0 : ∀ i, i < c0 → CF i < NF0) (h : rsA f DP FC CA CF CL P nd c0 NF0 j) : ∀ i, i < c0 + j → CF i < NFs f CA c0 NF0 j := by
  intro i
  induction i using Nat.strongRecOn with
  | _ i ih =>
    intro hi
    rcases Nat.lt_or_ge i c0 with z | z
    · exact Nat.lt_of_lt_of_le (h0 i z) (NFs_mono f CA c0 NF0 (i := 0) (Nat.zero_le _))
    · obtain ⟨q, rfl⟩ : ∃ q, i = c0 + q := ⟨i - c0, by omega⟩
      refine rsR.lt hD (fun r z => Nat.le_trans (hL r z) (by omega)) (fun r z => ih r z (by omega)) (fun e => ?_) (h q (by omega))
      have h1 := NFs_mono f CA c0 NF0 (i := q + 1) (j := j) (by omega)
      have h2 : NFs f CA c0 NF0 (q + 1) = NFs f CA c0 NF0 q + 1 := if_pos e
      omega
theorem flX_ne {f flu : Nat → Int32} {c NL a i : Nat} (h : ¬ i = c) : flX f c NL a flu i = flu i := by
  unfold flX
  split
  · exact upd_ne _ h
  · rfl
theorem flX_step {f flu : Nat → Int32} {CA CL : Nat → Nat} {c0 NL0 j : Nat} (h5 : ∀ i, i < c0 + j → f (CA i) = 2 → flu i = nI (clX f CA CL c0 NL0 i) ∧ clX f CA CL c0 NL0 i < 200000) (hb : NLs f CA c0 NL0 j < 200000) : ∀ i, i < c0 + (j + 1) → f (CA i) = 2 → flX f (c0 + j) (NLs f CA c0 NL0 j) (CA (c0 + j)) flu i = nI (clX f CA CL c0 NL0 i) ∧ clX f CA CL c0 NL0 i < 200000 := by
  intro i hi e
  by_cases z : i = c0 + j
  · subst z
    have e1 : clX f CA CL c0 NL0 (c0 + j) = NLs f CA c0 NL0 j := by
      unfold clX
      rw [if_neg (by omega), Nat.add_sub_cancel_left]
    unfold flX
    rw [if_pos e, upd_eq, e1]
    exact ⟨rfl, hb⟩
  · rw [flX_ne z]
    exact h5 i (by omega) e
/-- the bounds that the form of a change gives -/
def chV (f : Nat → Int32) (a : Nat) : Prop := a < 290000 ∧ (∃ j, j < 5 ∧ f a = nI j) ∧ (f a = 1 → a + 6 + 4 * b8 (f (a + 5)) + 4 < 290000) ∧ (f a = 2 → a + 12 < 290000 ∧ plEnd f (a + 5) + 7 < 290000 ∧ lnAt f a + 1 < 290000) ∧ (f a = 3 → a + 1 + 5 < 290000) ∧ (f a = 4 → a + 13 < 290000)
set_option maxHeartbeats 4000000 in
set_option maxRecDepth 100000 in
/-- the files of all changes of the candidate -/
theorem m_In_resolveAll (l : Launch) (dC : Nat → ClassId) (dI : Nat → Nat → Nat) (cI cB cL cZ cR : ClassId) (h sk b_y fdA dpA fcA naA ch cat cfA flA cpA ln : Nat) (it_sha it_form it_linesOfFile it_nextFile it_nextLine sk_from sk_hashes sk_byHash sk_leansOn sk_leantBy sk_lines ch_adds ln_at ln_length ln_change ln_place ln_up ln_down ln_ofFile : Value) (f fdf dpf fcf nf ca cff flf cpf : Nat → Int32) (DP FC CA CF CL : Nat → Nat) (P D0 nd c0 T NL0 NF0 : Nat) (sz : Nat) (hP5 : P ≤ 500) (gE0 : fdf P = nI D0) (gE1 : fdf (P + 1) = nI (D0 + nd)) (hnd : nd ≤ 2048) (hDr : D0 + nd ≤ 8400) (gD : ∀ i, i < nd → dpf (D0 + i) = nI (DP i) ∧ DP i < P) (gC : ∀ i, i ≤ P → fcf i = nI (FC i) ∧ FC i ≤ 38000) (hc0 : FC P = c0) (gT : fcf (P + 1) = nI (c0 + T)) (hT : c0 + T ≤ 38000) (gL : ∀ i, i < P → FC (i + 1) ≤ c0) (gA : ∀ i, i < c0 + T → ca i = nI (CA i) ∧ CA i + 5 < 290000) (gF : ∀ i, i < c0 → cff i = nI (CF i) ∧ CF i < 40000) (gI : ∀ i, i < c0 + T → f (CA i) = 2 → plEnd f (CA i + 5) < 290000 ∧ lnAt f (CA i) + 1 < 290000) (gN : ∀ i, i < c0 + T → f (CA i) = 1 → nmAt f (CA i) < 290000) (gCL : ∀ i, i < c0 → f (CA i) = 2 → flf i = nI (CL i) ∧ CL i < 200000) (gV : ∀ i, c0 ≤ i → i < c0 + T → chV f (CA i)) (hNLb : ∀ j, j ≤ T → NLs f CA c0 NL0 j < 200000) (hNF0 : NF0 ≤ 200) : Met l y_In_resolveAll ws_In_resolveAll ({ frames := 5, cells := 0, slots := 0, locals := 300 }) (xw_Pc dC dI [(cI, .int), (cB, .byte), (cL, .long), (cZ, .boolean), (cR, .object "PatchStore$Repository")] [.ref h] [(h, .inr (3, [.ref sk, .ref ch, .ref ln, it_sha, it_form, .ref naA, it_linesOfFile, it_nextFile, it_nextLine])), (sk, .inr (9, [.ref b_y, sk_from, .ref fdA, .ref fcA, .ref dpA, sk_hashes, sk_byHash, sk_leansOn, sk_leantBy, .ref ch, sk_lines, .int (nI P)])), (b_y, .inl (cB, 290000, .inl f)), (fdA, .inl (cI, 502, .inl fdf)), (dpA, .inl (cI, 8400, .inl dpf)), (fcA, .inl (cI, 502, .inl fcf)), (naA, .inl (cI, 2048, .inl nf)), (ch, .inr (1, [.ref cat, .ref cpA, .ref cfA, .ref flA, ch_adds, .int (nI NF0)])), (cat, .inl (cI, 38000, .inl ca)), (cfA, .inl (cI, 38000, .inl cff)), (flA, .inl (cI, 38000, .inl flf)), (cpA, .inl (cI, 38000, .inl cpf)), (ln, .inr (4, [ln_at, ln_length, ln_change, ln_place, ln_up, ln_down, ln_ofFile, .int (nI NL0)]))] sz) (va_Qi (fun (r : Int32) (u : (Nat → Nat) × (Nat → Int32) × (Nat → Int32) × (Nat → Int32) × (Nat → Int32) × Nat × Nat) => ((r = 1 ∧ (∀ i, i < c0 → u.1 i = CF i) ∧ rsA f DP FC CA u.1 (clX f CA CL c0 NL0) P nd c0 NF0 T ∧ (∀ i, i < c0 + T → u.2.2.1 i = nI (u.1 i) ∧ u.1 i < 40000) ∧ (∃ z0 : Nat → Int32, (∀ i, i < 2048 → z0 i = 0) ∧ u.2.1 = nmXs f nd CA c0 T z0) ∧ (∀ i, i < c0 + T → f (CA i) = 2 → u.2.2.2.1 i = nI (clX f CA CL c0 NL0 i) ∧ clX f CA CL c0 NL0 i < 200000) ∧ (∀ i, c0 ≤ i → i < c0 + T → u.2.2.2.2.1 i = nI P) ∧ u.2.2.2.2.2.1 = NLs f CA c0 NL0 T ∧ u.2.2.2.2.2.2 = NFs f CA c0 NF0 T) ∨ (r = 0 ∧ ¬ ∃ CF1, (∀ i, i < c0 → CF1 i = CF i) ∧ rsA f DP FC CA CF1 (clX f CA CL c0 NL0) P nd c0 NF0 T)) ∧ (∀ i, i < c0 → u.2.2.1 i = cff i ∧ u.2.2.2.1 i = flf i ∧ u.2.2.2.2.1 i = cpf i)) (fun u t => xw_B dC dI [(cI, .int), (cB, .byte), (cL, .long), (cZ, .boolean), (cR, .object "PatchStore$Repository")] (va_A [(h, .inr (3, [.ref sk, .ref ch, .ref ln, it_sha, it_form, .ref naA, it_linesOfFile, it_nextFile, it_nextLine])), (sk, .inr (9, [.ref b_y, sk_from, .ref fdA, .ref fcA, .ref dpA, sk_hashes, sk_byHash, sk_leansOn, sk_leantBy, .ref ch, sk_lines, .int (nI P)])), (b_y, .inl (cB, 290000, .inl f)), (fdA, .inl (cI, 502, .inl fdf)), (dpA, .inl (cI, 8400, .inl dpf)), (fcA, .inl (cI, 502, .inl fcf)), (naA, .inl (cI, 2048, .inl nf)), (ch, .inr (1, [.ref cat, .ref cpA, .ref cfA, .ref flA, ch_adds, .int (nI NF0)])), (cat, .inl (cI, 38000, .inl ca)), (cfA, .inl (cI, 38000, .inl cff)), (flA, .inl (cI, 38000, .inl flf)), (cpA, .inl (cI, 38000, .inl cpf)), (ln, .inr (4, [ln_at, ln_length, ln_change, ln_place, ln_up, ln_down, ln_ofFile, .int (nI NL0)]))] sz) [(h, .inr (3, [.ref sk, .ref ch, .ref ln, it_sha, it_form, .ref naA, it_linesOfFile, .int (nI u.2.2.2.2.2.2), .int (nI u.2.2.2.2.2.1)])), (sk, .inr (9, [.ref b_y, sk_from, .ref fdA, .ref fcA, .ref dpA, sk_hashes, sk_byHash, sk_leansOn, sk_leantBy, .ref ch, sk_lines, .int (nI P)])), (b_y, .inl (cB, 290000, .inl f)), (fdA, .inl (cI, 502, .inl fdf)), (dpA, .inl (cI, 8400, .inl dpf)), (fcA, .inl (cI, 502, .inl fcf)), (naA, .inl (cI, 2048, .inl u.2.1)), (ch, .inr (1, [.ref cat, .ref cpA, .ref cfA, .ref flA, ch_adds, .int (nI NF0)])), (cat, .inl (cI, 38000, .inl ca)), (cfA, .inl (cI, 38000, .inl u.2.2.1)), (flA, .inl (cI, 38000, .inl u.2.2.2.1)), (cpA, .inl (cI, 38000, .inl u.2.2.2.2.1)), (ln, .inr (4, [ln_at, ln_length, ln_change, ln_place, ln_up, ln_down, ln_ofFile, .int (nI NL0)]))] t) (va_A [(h, .inr (3, [.ref sk, .ref ch, .ref ln, it_sha, it_form, .ref naA, it_linesOfFile, it_nextFile, it_nextLine])), (sk, .inr (9, [.ref b_y, sk_from, .ref fdA, .ref fcA, .ref dpA, sk_hashes, sk_byHash, sk_leansOn, sk_leantBy, .ref ch, sk_lines, .int (nI P)])), (b_y, .inl (cB, 290000, .inl f)), (fdA, .inl (cI, 502, .inl fdf)), (dpA, .inl (cI, 8400, .inl dpf)), (fcA, .inl (cI, 502, .inl fcf)), (naA, .inl (cI, 2048, .inl nf)), (ch, .inr (1, [.ref cat, .ref cpA, .ref cfA, .ref flA, ch_adds, .int (nI NF0)])), (cat, .inl (cI, 38000, .inl ca)), (cfA, .inl (cI, 38000, .inl cff)), (flA, .inl (cI, 38000, .inl flf)), (cpA, .inl (cI, 38000, .inl cpf)), (ln, .inr (4, [ln_at, ln_length, ln_change, ln_place, ln_up, ln_down, ln_ofFile, .int (nI NL0)]))] sz)) 0 0 (va_A [(h, .inr (3, [.ref sk, .ref ch, .ref ln, it_sha, it_form, .ref naA, it_linesOfFile, it_nextFile, it_nextLine])), (sk, .inr (9, [.ref b_y, sk_from, .ref fdA, .ref fcA, .ref dpA, sk_hashes, sk_byHash, sk_leansOn, sk_leantBy, .ref ch, sk_lines, .int (nI P)])), (b_y, .inl (cB, 290000, .inl f)), (fdA, .inl (cI, 502, .inl fdf)), (dpA, .inl (cI, 8400, .inl dpf)), (fcA, .inl (cI, 502, .inl fcf)), (naA, .inl (cI, 2048, .inl nf)), (ch, .inr (1, [.ref cat, .ref cpA, .ref cfA, .ref flA, ch_adds, .int (nI NF0)])), (cat, .inl (cI, 38000, .inl ca)), (cfA, .inl (cI, 38000, .inl cff)), (flA, .inl (cI, 38000, .inl flf)), (cpA, .inl (cI, 38000, .inl cpf)), (ln, .inr (4, [ln_at, ln_length, ln_change, ln_place, ln_up, ln_down, ln_ofFile, .int (nI NL0)]))] sz) := by
  refine Met.ofW (cc := prog_4_method_5_code) (maxL := 2) (ret := (Option.some Jvm.ClassFile.FieldType.boolean)) (by decide) rfl ?_
  intro p e s m args below meth c s₁ B hml hv
  obtain ⟨rfl, hsz, hP, hK, hD0⟩ := hv
  have hx := B.exec
  have hb := B.bytes
  have hr := B.returns
  have hts0 := atoms_spec (ws := ws_In_resolveAll) B.pre
  have hts : ∀ w ∈ xg_1, w.before _ s = true := fun w h => hts0 w (List.mem_cons_of_mem _ h)
  have hown : s.vm.findClass "PatchStore$Intake" = some m.cls := findClass_of_methodNamed B.named
  have hlocks := B.notSynchronized
  subst hsz
  have hD := hD0.self (sz := s.heap.size)
  generalize hAe : va_A [(h, .inr (3, [.ref sk, .ref ch, .ref ln, it_sha, it_form, .ref naA, it_linesOfFile, it_nextFile, it_nextLine])), (sk, .inr (9, [.ref b_y, sk_from, .ref fdA, .ref fcA, .ref dpA, sk_hashes, sk_byHash, sk_leansOn, sk_leantBy, .ref ch, sk_lines, .int (nI P)])), (b_y, .inl (cB, 290000, .inl f)), (fdA, .inl (cI, 502, .inl fdf)), (dpA, .inl (cI, 8400, .inl dpf)), (fcA, .inl (cI, 502, .inl fcf)), (naA, .inl (cI, 2048, .inl nf)), (ch, .inr (1, [.ref cat, .ref cpA, .ref cfA, .ref flA, ch_adds, .int (nI NF0)])), (cat, .inl (cI, 38000, .inl ca)), (cfA, .inl (cI, 38000, .inl cff)), (flA, .inl (cI, 38000, .inl flf)), (cpA, .inl (cI, 38000, .inl cpf)), (ln, .inr (4, [ln_at, ln_length, ln_change, ln_place, ln_up, ln_down, ln_ofFile, .int (nI NL0)]))] s.heap.size = A at hD ⊢
  have hA : ∀ q : Nat, s.heap.size ≤ q → A q := fun q h => by rw [← hAe]; exact Or.inr h
  have hS : va_S A s.heap s.heap [] := va_S.rf
  have hl := lv_entry ([.ref h]) (n := 2) (Nat.le_of_ble_eq_true rfl)
  rw [lg_entry_eq]
  generalize (lg_sl ([.ref h]) ++ List.replicate (2 - (lg_sl ([.ref h])).length) Slot.unset).toArray = ls at hl ⊢
  have hl : lv_has ls 2 [(0, .ref h)] := hl
  generalize hQe : MQ _ _ _ _ _ _ _ = Q
  refine lv_aload_n hx hb d_In_resolveAll_0 rfl (lv_at hl 0 rfl) ?_
  refine va_get (D := (dC, dI)) (ci := 3) (v := .ref naA) (C := R_In) (T := F_In) (N := 9) hx hb hts i_In hown hK hP 0 rfl rfl 5 (by decide) (hts _ gw_289) (fun _ h9 => h9) rfl d_In_resolveAll_1 ?_
  refine lv_iconst (v := 0) hx hb d_In_resolveAll_4 (by decide) ?_
  have hPc := hP.sub (ws' := [(naA, .inl (cI, 2048, .inl nf))]) [6] rfl
  have hDc := hD.sub (ws' := [(naA, .inl (cI, 2048, .inl nf))]) [6] (by decide) rfl
  have hFc := va_free (wc := [(naA, .inl (cI, 2048, .inl nf))]) hD hS hA [6] rfl
  refine va_callv (va_runS (As := [.ref naA, .int 0]) (rest := []) ⟨hx, hb, hml, hown, hts⟩ (m_Ar_fill l dC dI cI cB cL cZ cR naA 2048 nf 0 s.heap.size (by decide)) ⟨callB_of 2 hts (xg_in gw_736) rfl rfl rfl (hts _ gw_22) (hts _ gw_871) (by decide +kernel) ⟨Nat.le_of_ble_eq_true rfl, Nat.le_of_ble_eq_true rfl⟩, hts _ gw_735⟩ ⟨xw_blind, fun U hU hW => ⟨rfl, by rw [hU], by rw [hU]; exact hPc, va_K.moved hW.alike hK, hDc.weaken (fun _ _ _ _ => trivial)⟩⟩ rfl rfl hl.1 rfl (lv_room (Nat.le_of_ble_eq_true rfl)) d_In_resolveAll_5 ⟨Nat.le_of_ble_eq_true rfl, Nat.le_of_ble_eq_true rfl⟩) hS (fun q _ h => hFc q h) hFc (fun z0 t H1 locs ht hvm hw hB hz1 hk1 hS => ?_)
  have hz0 : ∀ i, i < 2048 → z0 i = 0 := hw
  obtain ⟨hP1, hK1, hD1⟩ := hB
  rw [ht] at hP1
  obtain ⟨hP, hD⟩ := va_join (wr := [(h, .inr (3, [.ref sk, .ref ch, .ref ln, it_sha, it_form, .ref naA, it_linesOfFile, it_nextFile, it_nextLine])), (sk, .inr (9, [.ref b_y, sk_from, .ref fdA, .ref fcA, .ref dpA, sk_hashes, sk_byHash, sk_leansOn, sk_leantBy, .ref ch, sk_lines, .int (nI P)])), (b_y, .inl (cB, 290000, .inl f)), (fdA, .inl (cI, 502, .inl fdf)), (dpA, .inl (cI, 8400, .inl dpf)), (fcA, .inl (cI, 502, .inl fcf)), (ch, .inr (1, [.ref cat, .ref cpA, .ref cfA, .ref flA, ch_adds, .int (nI NF0)])), (cat, .inl (cI, 38000, .inl ca)), (cfA, .inl (cI, 38000, .inl cff)), (flA, .inl (cI, 38000, .inl flf)), (cpA, .inl (cI, 38000, .inl cpf)), (ln, .inr (4, [ln_at, ln_length, ln_change, ln_place, ln_up, ln_down, ln_ofFile, .int (nI NL0)]))]) (w1 := [(naA, .inl (cI, 2048, .inl z0))]) hP hD [6] [0, 1, 2, 3, 4, 5, 7, 8, 9, 10, 11, 12] rfl rfl (by decide) (by decide) hk1 hFc hP1 hD1
  generalize H1 = H at hP hS ⊢
  have hP : va_P (dC, dI) classes [(h, .inr (3, [.ref sk, .ref ch, .ref ln, it_sha, it_form, .ref naA, it_linesOfFile, it_nextFile, it_nextLine])), (sk, .inr (9, [.ref b_y, sk_from, .ref fdA, .ref fcA, .ref dpA, sk_hashes, sk_byHash, sk_leansOn, sk_leantBy, .ref ch, sk_lines, .int (nI P)])), (b_y, .inl (cB, 290000, .inl f)), (fdA, .inl (cI, 502, .inl fdf)), (dpA, .inl (cI, 8400, .inl dpf)), (fcA, .inl (cI, 502, .inl fcf)), (ch, .inr (1, [.ref cat, .ref cpA, .ref cfA, .ref flA, ch_adds, .int (nI NF0)])), (cat, .inl (cI, 38000, .inl ca)), (cfA, .inl (cI, 38000, .inl cff)), (flA, .inl (cI, 38000, .inl flf)), (cpA, .inl (cI, 38000, .inl cpf)), (ln, .inr (4, [ln_at, ln_length, ln_change, ln_place, ln_up, ln_down, ln_ofFile, .int (nI NL0)])), (naA, .inl (cI, 2048, .inl z0))] H := hP
  have hD : va_D A [(h, .inr (3, [.ref sk, .ref ch, .ref ln, it_sha, it_form, .ref naA, it_linesOfFile, it_nextFile, it_nextLine])), (sk, .inr (9, [.ref b_y, sk_from, .ref fdA, .ref fcA, .ref dpA, sk_hashes, sk_byHash, sk_leansOn, sk_leantBy, .ref ch, sk_lines, .int (nI P)])), (b_y, .inl (cB, 290000, .inl f)), (fdA, .inl (cI, 502, .inl fdf)), (dpA, .inl (cI, 8400, .inl dpf)), (fcA, .inl (cI, 502, .inl fcf)), (ch, .inr (1, [.ref cat, .ref cpA, .ref cfA, .ref flA, ch_adds, .int (nI NF0)])), (cat, .inl (cI, 38000, .inl ca)), (cfA, .inl (cI, 38000, .inl cff)), (flA, .inl (cI, 38000, .inl flf)), (cpA, .inl (cI, 38000, .inl cpf)), (ln, .inr (4, [ln_at, ln_length, ln_change, ln_place, ln_up, ln_down, ln_ofFile, .int (nI NL0)])), (naA, .inl (cI, 2048, .inl z0))] := hD
  refine lv_aload_n hx hb d_In_resolveAll_8 rfl (lv_at hl 0 rfl) ?_
  refine lv_aload_n hx hb d_In_resolveAll_9 rfl (lv_at hl 0 rfl) ?_
  refine va_get (D := (dC, dI)) (ci := 3) (v := .ref ch) (C := R_In) (T := F_In) (N := 9) hx hb hts i_In hown hK hP 0 rfl rfl 1 (by decide) (hts _ gw_285) (fun _ h9 => h9) rfl d_In_resolveAll_10 ?_
  refine va_get (D := (dC, dI)) (ci := 1) (v := .int (nI NF0)) (C := R_Ch) (T := F_Ch) (N := 6) hx hb hts i_Ch hown hK hP 6 rfl rfl 5 (by decide) (hts _ gw_112) (fun _ h9 => h9) rfl d_In_resolveAll_13 ?_
  refine va_put (D := (dC, dI)) (ci := 3) (v := .int (nI NF0)) (ty := .int) (C := R_In) (T := F_In) (N := 9) hx hb hts i_In t_In t_In_ok n_In hown hK hP hD hS 0 rfl rfl 7 (by decide) (hts _ gw_291) (fun _ h9 => h9) rfl (by decide +kernel) rfl rfl (Nat.le_of_ble_eq_true rfl) d_In_resolveAll_16 (fun H locs hP hD hS => ?_)
  have hP : va_P (dC, dI) classes [(h, .inr (3, [.ref sk, .ref ch, .ref ln, it_sha, it_form, .ref naA, it_linesOfFile, .int (nI NF0), it_nextLine])), (sk, .inr (9, [.ref b_y, sk_from, .ref fdA, .ref fcA, .ref dpA, sk_hashes, sk_byHash, sk_leansOn, sk_leantBy, .ref ch, sk_lines, .int (nI P)])), (b_y, .inl (cB, 290000, .inl f)), (fdA, .inl (cI, 502, .inl fdf)), (dpA, .inl (cI, 8400, .inl dpf)), (fcA, .inl (cI, 502, .inl fcf)), (ch, .inr (1, [.ref cat, .ref cpA, .ref cfA, .ref flA, ch_adds, .int (nI NF0)])), (cat, .inl (cI, 38000, .inl ca)), (cfA, .inl (cI, 38000, .inl cff)), (flA, .inl (cI, 38000, .inl flf)), (cpA, .inl (cI, 38000, .inl cpf)), (ln, .inr (4, [ln_at, ln_length, ln_change, ln_place, ln_up, ln_down, ln_ofFile, .int (nI NL0)])), (naA, .inl (cI, 2048, .inl z0))] H := hP
  have hD : va_D A [(h, .inr (3, [.ref sk, .ref ch, .ref ln, it_sha, it_form, .ref naA, it_linesOfFile, .int (nI NF0), it_nextLine])), (sk, .inr (9, [.ref b_y, sk_from, .ref fdA, .ref fcA, .ref dpA, sk_hashes, sk_byHash, sk_leansOn, sk_leantBy, .ref ch, sk_lines, .int (nI P)])), (b_y, .inl (cB, 290000, .inl f)), (fdA, .inl (cI, 502, .inl fdf)), (dpA, .inl (cI, 8400, .inl dpf)), (fcA, .inl (cI, 502, .inl fcf)), (ch, .inr (1, [.ref cat, .ref cpA, .ref cfA, .ref flA, ch_adds, .int (nI NF0)])), (cat, .inl (cI, 38000, .inl ca)), (cfA, .inl (cI, 38000, .inl cff)), (flA, .inl (cI, 38000, .inl flf)), (cpA, .inl (cI, 38000, .inl cpf)), (ln, .inr (4, [ln_at, ln_length, ln_change, ln_place, ln_up, ln_down, ln_ofFile, .int (nI NL0)])), (naA, .inl (cI, 2048, .inl z0))] := hD
  refine lv_aload_n hx hb d_In_resolveAll_19 rfl (lv_at hl 0 rfl) ?_
  refine lv_aload_n hx hb d_In_resolveAll_20 rfl (lv_at hl 0 rfl) ?_
  refine va_get (D := (dC, dI)) (ci := 3) (v := .ref ln) (C := R_In) (T := F_In) (N := 9) hx hb hts i_In hown hK hP 0 rfl rfl 2 (by decide) (hts _ gw_286) (fun _ h9 => h9) rfl d_In_resolveAll_21 ?_
  refine va_get (D := (dC, dI)) (ci := 4) (v := .int (nI NL0)) (C := R_Li) (T := F_Li) (N := 8) hx hb hts i_Li hown hK hP 11 rfl rfl 7 (by decide) (hts _ gw_162) (fun _ h9 => h9) rfl d_In_resolveAll_24 ?_
  refine va_put (D := (dC, dI)) (ci := 3) (v := .int (nI NL0)) (ty := .int) (C := R_In) (T := F_In) (N := 9) hx hb hts i_In t_In t_In_ok n_In hown hK hP hD hS 0 rfl rfl 8 (by decide) (hts _ gw_292) (fun _ h9 => h9) rfl (by decide +kernel) rfl rfl (Nat.le_of_ble_eq_true rfl) d_In_resolveAll_27 (fun H locs hP hD hS => ?_)
  have hP : va_P (dC, dI) classes [(h, .inr (3, [.ref sk, .ref ch, .ref ln, it_sha, it_form, .ref naA, it_linesOfFile, .int (nI NF0), .int (nI NL0)])), (sk, .inr (9, [.ref b_y, sk_from, .ref fdA, .ref fcA, .ref dpA, sk_hashes, sk_byHash, sk_leansOn, sk_leantBy, .ref ch, sk_lines, .int (nI P)])), (b_y, .inl (cB, 290000, .inl f)), (fdA, .inl (cI, 502, .inl fdf)), (dpA, .inl (cI, 8400, .inl dpf)), (fcA, .inl (cI, 502, .inl fcf)), (ch, .inr (1, [.ref cat, .ref cpA, .ref cfA, .ref flA, ch_adds, .int (nI NF0)])), (cat, .inl (cI, 38000, .inl ca)), (cfA, .inl (cI, 38000, .inl cff)), (flA, .inl (cI, 38000, .inl flf)), (cpA, .inl (cI, 38000, .inl cpf)), (ln, .inr (4, [ln_at, ln_length, ln_change, ln_place, ln_up, ln_down, ln_ofFile, .int (nI NL0)])), (naA, .inl (cI, 2048, .inl z0))] H := hP
  have hD : va_D A [(h, .inr (3, [.ref sk, .ref ch, .ref ln, it_sha, it_form, .ref naA, it_linesOfFile, .int (nI NF0), .int (nI NL0)])), (sk, .inr (9, [.ref b_y, sk_from, .ref fdA, .ref fcA, .ref dpA, sk_hashes, sk_byHash, sk_leansOn, sk_leantBy, .ref ch, sk_lines, .int (nI P)])), (b_y, .inl (cB, 290000, .inl f)), (fdA, .inl (cI, 502, .inl fdf)), (dpA, .inl (cI, 8400, .inl dpf)), (fcA, .inl (cI, 502, .inl fcf)), (ch, .inr (1, [.ref cat, .ref cpA, .ref cfA, .ref flA, ch_adds, .int (nI NF0)])), (cat, .inl (cI, 38000, .inl ca)), (cfA, .inl (cI, 38000, .inl cff)), (flA, .inl (cI, 38000, .inl flf)), (cpA, .inl (cI, 38000, .inl cpf)), (ln, .inr (4, [ln_at, ln_length, ln_change, ln_place, ln_up, ln_down, ln_ofFile, .int (nI NL0)])), (naA, .inl (cI, 2048, .inl z0))] := hD
  refine lv_aload_n hx hb d_In_resolveAll_30 rfl (lv_at hl 0 rfl) ?_
  refine va_get (D := (dC, dI)) (ci := 3) (v := .ref sk) (C := R_In) (T := F_In) (N := 9) hx hb hts i_In hown hK hP 0 rfl rfl 0 (by decide) (hts _ gw_284) (fun _ h9 => h9) rfl d_In_resolveAll_31 ?_
  refine va_get (D := (dC, dI)) (ci := 9) (v := .ref fcA) (C := R_St) (T := F_St) (N := 12) hx hb hts i_St hown hK hP 1 rfl rfl 3 (by decide) (hts _ gw_200) (fun _ h9 => h9) rfl d_In_resolveAll_34 ?_
  refine lv_aload_n hx hb d_In_resolveAll_37 rfl (lv_at hl 0 rfl) ?_
  refine va_get (D := (dC, dI)) (ci := 3) (v := .ref sk) (C := R_In) (T := F_In) (N := 9) hx hb hts i_In hown hK hP 0 rfl rfl 0 (by decide) (hts _ gw_284) (fun _ h9 => h9) rfl d_In_resolveAll_38 ?_
  refine va_get (D := (dC, dI)) (ci := 9) (v := .int (nI P)) (C := R_St) (T := F_St) (N := 12) hx hb hts i_St hown hK hP 1 rfl rfl 11 (by decide) (hts _ gw_238) (fun _ h9 => h9) rfl d_In_resolveAll_41 ?_
  refine va_iald hx hb hK hP 5 0 rfl rfl (vp_in_nI (by omega) (by omega)) d_In_resolveAll_44 ?_
  rw [show (nI P).toNatClampNeg = P from nI_clamp (by omega)]
  refine lv_topi (fun x_1 ex_1 => ?_)
  obtain rfl : x_1 = nI c0 := by rw [ex_1]; first | done | (rw [← hc0]; exact (gC P (Nat.le_refl _)).1)
  refine lv_istore_n (lv' := [(1, .int (nI c0)), (0, .ref h)]) hx hb d_In_resolveAll_45 rfl hl (by decide) rfl (fun ls hl => ?_)
  have loop_46 : ∀ (n9 : Nat) (j : Nat) (CF1 : Nat → Nat) (nu : Nat → Int32) (cfu : Nat → Int32) (flu : Nat → Int32) (cpu : Nat → Int32) (H : Heap) (locs : List Loc) (ls : Array Slot), T - j < n9 → (j ≤ T) → (∀ i, i < c0 → CF1 i = CF i) → (rsA f DP FC CA CF1 (clX f CA CL c0 NL0) P nd c0 NF0 j) → (∀ i, i < c0 + j → cfu i = nI (CF1 i) ∧ CF1 i < 40000) → (nu = nmXs f nd CA c0 j z0) → (∀ i, i < c0 + j → f (CA i) = 2 → flu i = nI (clX f CA CL c0 NL0 i) ∧ clX f CA CL c0 NL0 i < 200000) → (∀ i, i < c0 → cpu i = cpf i) → (∀ i, c0 ≤ i → i < c0 + j → cpu i = nI P) → (∀ i, i < c0 → flu i = flf i) → va_P (dC, dI) classes [(h, .inr (3, [.ref sk, .ref ch, .ref ln, it_sha, it_form, .ref naA, it_linesOfFile, .int (nI (NFs f CA c0 NF0 j)), .int (nI (NLs f CA c0 NL0 j))])), (sk, .inr (9, [.ref b_y, sk_from, .ref fdA, .ref fcA, .ref dpA, sk_hashes, sk_byHash, sk_leansOn, sk_leantBy, .ref ch, sk_lines, .int (nI P)])), (b_y, .inl (cB, 290000, .inl f)), (fdA, .inl (cI, 502, .inl fdf)), (dpA, .inl (cI, 8400, .inl dpf)), (fcA, .inl (cI, 502, .inl fcf)), (naA, .inl (cI, 2048, .inl nu)), (ch, .inr (1, [.ref cat, .ref cpA, .ref cfA, .ref flA, ch_adds, .int (nI NF0)])), (cat, .inl (cI, 38000, .inl ca)), (cfA, .inl (cI, 38000, .inl cfu)), (flA, .inl (cI, 38000, .inl flu)), (cpA, .inl (cI, 38000, .inl cpu)), (ln, .inr (4, [ln_at, ln_length, ln_change, ln_place, ln_up, ln_down, ln_ofFile, .int (nI NL0)]))] H → va_D A [(h, .inr (3, [.ref sk, .ref ch, .ref ln, it_sha, it_form, .ref naA, it_linesOfFile, .int (nI (NFs f CA c0 NF0 j)), .int (nI (NLs f CA c0 NL0 j))])), (sk, .inr (9, [.ref b_y, sk_from, .ref fdA, .ref fcA, .ref dpA, sk_hashes, sk_byHash, sk_leansOn, sk_leantBy, .ref ch, sk_lines, .int (nI P)])), (b_y, .inl (cB, 290000, .inl f)), (fdA, .inl (cI, 502, .inl fdf)), (dpA, .inl (cI, 8400, .inl dpf)), (fcA, .inl (cI, 502, .inl fcf)), (naA, .inl (cI, 2048, .inl nu)), (ch, .inr (1, [.ref cat, .ref cpA, .ref cfA, .ref flA, ch_adds, .int (nI NF0)])), (cat, .inl (cI, 38000, .inl ca)), (cfA, .inl (cI, 38000, .inl cfu)), (flA, .inl (cI, 38000, .inl flu)), (cpA, .inl (cI, 38000, .inl cpu)), (ln, .inr (4, [ln_at, ln_length, ln_change, ln_place, ln_up, ln_down, ln_ofFile, .int (nI NL0)]))] → va_S A s.heap H locs → lv_has ls 2 [(0, .ref h), (1, .int (nI (c0 + j)))] → W p l e (headSpec ws_In_resolveAll ({ frames := 5, cells := 0, slots := 0, locals := 300 })).room s m ([.ref h] : List Value).toArray below meth c H locs 0 0 Q (F0 m 46 ls []) := by
    intro n9
    induction n9 with
    | zero => intro j CF1 nu cfu flu cpu H locs ls hm; exact absurd hm (Nat.not_lt_zero _)
    | succ n9 ih_46 =>
      intro j CF1 nu cfu flu cpu H locs ls hm hj h1 h2 h3 h4 h5 h6 h7 h8 hP hD hS hl
      have hNb := hNLb j hj
      have hFb := NFs_le f CA c0 NF0 j
      refine lv_iload_n hx hb d_In_resolveAll_46 rfl (lv_at hl 1 rfl) ?_
      refine lv_aload_n hx hb d_In_resolveAll_47 rfl (lv_at hl 0 rfl) ?_
      refine va_get (D := (dC, dI)) (ci := 3) (v := .ref sk) (C := R_In) (T := F_In) (N := 9) hx hb hts i_In hown hK hP 0 rfl rfl 0 (by decide) (hts _ gw_284) (fun _ h9 => h9) rfl d_In_resolveAll_48 ?_
      refine va_get (D := (dC, dI)) (ci := 9) (v := .ref fcA) (C := R_St) (T := F_St) (N := 12) hx hb hts i_St hown hK hP 1 rfl rfl 3 (by decide) (hts _ gw_200) (fun _ h9 => h9) rfl d_In_resolveAll_51 ?_
      refine lv_aload_n hx hb d_In_resolveAll_54 rfl (lv_at hl 0 rfl) ?_
      refine va_get (D := (dC, dI)) (ci := 3) (v := .ref sk) (C := R_In) (T := F_In) (N := 9) hx hb hts i_In hown hK hP 0 rfl rfl 0 (by decide) (hts _ gw_284) (fun _ h9 => h9) rfl d_In_resolveAll_55 ?_
      refine va_get (D := (dC, dI)) (ci := 9) (v := .int (nI P)) (C := R_St) (T := F_St) (N := 12) hx hb hts i_St hown hK hP 1 rfl rfl 11 (by decide) (hts _ gw_238) (fun _ h9 => h9) rfl d_In_resolveAll_58 ?_
      refine lv_iconst (v := 1) hx hb d_In_resolveAll_61 (by decide) ?_
      refine lv_iadd hx hb d_In_resolveAll_62 ?_
      refine lv_topi (fun x_2 ex_2 => ?_)
      obtain rfl : x_2 = nI (P + 1) := by rw [ex_2]; first | done | (exact nI_add _ _)
      refine va_iald hx hb hK hP 5 0 rfl rfl (vp_in_nI (by omega) (by omega)) d_In_resolveAll_63 ?_
      rw [show (nI (P + 1)).toNatClampNeg = (P + 1) from nI_clamp (by omega)]
      refine lv_topi (fun x_3 ex_3 => ?_)
      obtain rfl : x_3 = nI (c0 + T) := by rw [ex_3]; first | done | (exact gT)
      refine lv_icmp_ge (tgt := 127) hx hb d_In_resolveAll_64 (by decide) (fun c_64 => ?_) (fun c_64 => ?_)
      · have n_64 : (c0 + T) ≤ (c0 + j) := (nI_leI (a := (c0 + T)) (b := (c0 + j)) (by omega) (by omega)).mp c_64
        have hjT : j = T := by omega
        refine lv_iconst (v := 1) hx hb d_In_resolveAll_127 (by decide) ?_
        rw [← hQe]
        exact W.zret (v := 1) hx hb hr nz_b1 (fun t ht hW => ⟨⟨_, (CF1, nu, cfu, flu, cpu, (NLs f CA c0 NL0 j), (NFs f CA c0 NF0 j)), rfl, ⟨Or.inl ⟨rfl, h1, hjT ▸ h2, hjT ▸ h3, ⟨z0, hz0, hjT ▸ h4⟩, hjT ▸ h5, hjT ▸ h7, by rw [hjT], by rw [hjT]⟩, fun i z => ⟨(h3 i (by omega)).1.trans ((congrArg nI (h1 i z)).trans (gF i z).1.symm), h8 i z, h6 i z⟩⟩, by rw [ht]; exact hP, va_K.moved hW.alike hK, hD⟩, hS.F ht⟩) hS.2.2 d_In_resolveAll_128
      · have n_64 : (c0 + j) < (c0 + T) := Nat.lt_of_not_le (fun z => c_64 ((nI_leI (a := (c0 + T)) (b := (c0 + j)) (by omega) (by omega)).mpr z))
        have hvv := gV (c0 + j) (by omega) (by omega)
        have hgA := gA (c0 + j) (by omega)
        refine lv_aload_n hx hb d_In_resolveAll_67 rfl (lv_at hl 0 rfl) ?_
        refine va_get (D := (dC, dI)) (ci := 3) (v := .ref ch) (C := R_In) (T := F_In) (N := 9) hx hb hts i_In hown hK hP 0 rfl rfl 1 (by decide) (hts _ gw_285) (fun _ h9 => h9) rfl d_In_resolveAll_68 ?_
        refine va_get (D := (dC, dI)) (ci := 1) (v := .ref cpA) (C := R_Ch) (T := F_Ch) (N := 6) hx hb hts i_Ch hown hK hP 7 rfl rfl 1 (by decide) (hts _ gw_93) (fun _ h9 => h9) rfl d_In_resolveAll_71 ?_
        refine lv_iload_n hx hb d_In_resolveAll_74 rfl (lv_at hl 1 rfl) ?_
        refine lv_aload_n hx hb d_In_resolveAll_75 rfl (lv_at hl 0 rfl) ?_
        refine va_get (D := (dC, dI)) (ci := 3) (v := .ref sk) (C := R_In) (T := F_In) (N := 9) hx hb hts i_In hown hK hP 0 rfl rfl 0 (by decide) (hts _ gw_284) (fun _ h9 => h9) rfl d_In_resolveAll_76 ?_
        refine va_get (D := (dC, dI)) (ci := 9) (v := .int (nI P)) (C := R_St) (T := F_St) (N := 12) hx hb hts i_St hown hK hP 1 rfl rfl 11 (by decide) (hts _ gw_238) (fun _ h9 => h9) rfl d_In_resolveAll_79 ?_
        refine va_iast hx hb hK hP hD hS 11 0 rfl rfl (vp_in_nI (by omega) (by omega)) d_In_resolveAll_82 (fun H locs hP hD hS => ?_)
        rw [show (nI (c0 + j)).toNatClampNeg = (c0 + j) from nI_clamp (by omega)] at hP hD
        have hP : va_P (dC, dI) classes [(h, .inr (3, [.ref sk, .ref ch, .ref ln, it_sha, it_form, .ref naA, it_linesOfFile, .int (nI (NFs f CA c0 NF0 j)), .int (nI (NLs f CA c0 NL0 j))])), (sk, .inr (9, [.ref b_y, sk_from, .ref fdA, .ref fcA, .ref dpA, sk_hashes, sk_byHash, sk_leansOn, sk_leantBy, .ref ch, sk_lines, .int (nI P)])), (b_y, .inl (cB, 290000, .inl f)), (fdA, .inl (cI, 502, .inl fdf)), (dpA, .inl (cI, 8400, .inl dpf)), (fcA, .inl (cI, 502, .inl fcf)), (naA, .inl (cI, 2048, .inl nu)), (ch, .inr (1, [.ref cat, .ref cpA, .ref cfA, .ref flA, ch_adds, .int (nI NF0)])), (cat, .inl (cI, 38000, .inl ca)), (cfA, .inl (cI, 38000, .inl cfu)), (flA, .inl (cI, 38000, .inl flu)), (cpA, .inl (cI, 38000, .inl (upd cpu (c0 + j) (nI P)))), (ln, .inr (4, [ln_at, ln_length, ln_change, ln_place, ln_up, ln_down, ln_ofFile, .int (nI NL0)]))] H := hP
        have hD : va_D A [(h, .inr (3, [.ref sk, .ref ch, .ref ln, it_sha, it_form, .ref naA, it_linesOfFile, .int (nI (NFs f CA c0 NF0 j)), .int (nI (NLs f CA c0 NL0 j))])), (sk, .inr (9, [.ref b_y, sk_from, .ref fdA, .ref fcA, .ref dpA, sk_hashes, sk_byHash, sk_leansOn, sk_leantBy, .ref ch, sk_lines, .int (nI P)])), (b_y, .inl (cB, 290000, .inl f)), (fdA, .inl (cI, 502, .inl fdf)), (dpA, .inl (cI, 8400, .inl dpf)), (fcA, .inl (cI, 502, .inl fcf)), (naA, .inl (cI, 2048, .inl nu)), (ch, .inr (1, [.ref cat, .ref cpA, .ref cfA, .ref flA, ch_adds, .int (nI NF0)])), (cat, .inl (cI, 38000, .inl ca)), (cfA, .inl (cI, 38000, .inl cfu)), (flA, .inl (cI, 38000, .inl flu)), (cpA, .inl (cI, 38000, .inl (upd cpu (c0 + j) (nI P)))), (ln, .inr (4, [ln_at, ln_length, ln_change, ln_place, ln_up, ln_down, ln_ofFile, .int (nI NL0)]))] := hD
        refine lv_aload_n hx hb d_In_resolveAll_83 rfl (lv_at hl 0 rfl) ?_
        refine va_get (D := (dC, dI)) (ci := 3) (v := .ref ch) (C := R_In) (T := F_In) (N := 9) hx hb hts i_In hown hK hP 0 rfl rfl 1 (by decide) (hts _ gw_285) (fun _ h9 => h9) rfl d_In_resolveAll_84 ?_
        refine va_get (D := (dC, dI)) (ci := 1) (v := .ref cfA) (C := R_Ch) (T := F_Ch) (N := 6) hx hb hts i_Ch hown hK hP 7 rfl rfl 2 (by decide) (hts _ gw_102) (fun _ h9 => h9) rfl d_In_resolveAll_87 ?_
        refine lv_iload_n hx hb d_In_resolveAll_90 rfl (lv_at hl 1 rfl) ?_
        refine lv_aload_n hx hb d_In_resolveAll_91 rfl (lv_at hl 0 rfl) ?_
        refine lv_iload_n hx hb d_In_resolveAll_92 rfl (lv_at hl 1 rfl) ?_
        refine lv_aload_n hx hb d_In_resolveAll_93 rfl (lv_at hl 0 rfl) ?_
        refine va_get (D := (dC, dI)) (ci := 3) (v := .ref ch) (C := R_In) (T := F_In) (N := 9) hx hb hts i_In hown hK hP 0 rfl rfl 1 (by decide) (hts _ gw_285) (fun _ h9 => h9) rfl d_In_resolveAll_94 ?_
        refine va_get (D := (dC, dI)) (ci := 1) (v := .ref cat) (C := R_Ch) (T := F_Ch) (N := 6) hx hb hts i_Ch hown hK hP 7 rfl rfl 0 (by decide) (hts _ gw_90) (fun _ h9 => h9) rfl d_In_resolveAll_97 ?_
        refine lv_iload_n hx hb d_In_resolveAll_100 rfl (lv_at hl 1 rfl) ?_
        refine va_iald hx hb hK hP 8 0 rfl rfl (vp_in_nI (by omega) (by omega)) d_In_resolveAll_101 ?_
        rw [show (nI (c0 + j)).toNatClampNeg = (c0 + j) from nI_clamp (by omega)]
        refine lv_topi (fun x_4 ex_4 => ?_)
        obtain rfl : x_4 = nI (CA (c0 + j)) := by rw [ex_4]; first | done | (exact hgA.1)
        have hPc := hP.sub (ws' := [(h, .inr (3, [.ref sk, .ref ch, .ref ln, it_sha, it_form, .ref naA, it_linesOfFile, .int (nI (NFs f CA c0 NF0 j)), .int (nI (NLs f CA c0 NL0 j))])), (sk, .inr (9, [.ref b_y, sk_from, .ref fdA, .ref fcA, .ref dpA, sk_hashes, sk_byHash, sk_leansOn, sk_leantBy, .ref ch, sk_lines, .int (nI P)])), (b_y, .inl (cB, 290000, .inl f)), (fdA, .inl (cI, 502, .inl fdf)), (dpA, .inl (cI, 8400, .inl dpf)), (fcA, .inl (cI, 502, .inl fcf)), (naA, .inl (cI, 2048, .inl nu)), (ch, .inr (1, [.ref cat, .ref cpA, .ref cfA, .ref flA, ch_adds, .int (nI NF0)])), (cat, .inl (cI, 38000, .inl ca)), (cfA, .inl (cI, 38000, .inl cfu)), (flA, .inl (cI, 38000, .inl flu))]) [0, 1, 2, 3, 4, 5, 6, 7, 8, 9, 10] rfl
        have hDc := hD.sub (ws' := [(h, .inr (3, [.ref sk, .ref ch, .ref ln, it_sha, it_form, .ref naA, it_linesOfFile, .int (nI (NFs f CA c0 NF0 j)), .int (nI (NLs f CA c0 NL0 j))])), (sk, .inr (9, [.ref b_y, sk_from, .ref fdA, .ref fcA, .ref dpA, sk_hashes, sk_byHash, sk_leansOn, sk_leantBy, .ref ch, sk_lines, .int (nI P)])), (b_y, .inl (cB, 290000, .inl f)), (fdA, .inl (cI, 502, .inl fdf)), (dpA, .inl (cI, 8400, .inl dpf)), (fcA, .inl (cI, 502, .inl fcf)), (naA, .inl (cI, 2048, .inl nu)), (ch, .inr (1, [.ref cat, .ref cpA, .ref cfA, .ref flA, ch_adds, .int (nI NF0)])), (cat, .inl (cI, 38000, .inl ca)), (cfA, .inl (cI, 38000, .inl cfu)), (flA, .inl (cI, 38000, .inl flu))]) [0, 1, 2, 3, 4, 5, 6, 7, 8, 9, 10] (by decide) rfl
        have hFc := va_free (wc := [(h, .inr (3, [.ref sk, .ref ch, .ref ln, it_sha, it_form, .ref naA, it_linesOfFile, .int (nI (NFs f CA c0 NF0 j)), .int (nI (NLs f CA c0 NL0 j))])), (sk, .inr (9, [.ref b_y, sk_from, .ref fdA, .ref fcA, .ref dpA, sk_hashes, sk_byHash, sk_leansOn, sk_leantBy, .ref ch, sk_lines, .int (nI P)])), (b_y, .inl (cB, 290000, .inl f)), (fdA, .inl (cI, 502, .inl fdf)), (dpA, .inl (cI, 8400, .inl dpf)), (fcA, .inl (cI, 502, .inl fcf)), (naA, .inl (cI, 2048, .inl nu)), (ch, .inr (1, [.ref cat, .ref cpA, .ref cfA, .ref flA, ch_adds, .int (nI NF0)])), (cat, .inl (cI, 38000, .inl ca)), (cfA, .inl (cI, 38000, .inl cfu)), (flA, .inl (cI, 38000, .inl flu))]) hD hS hA [0, 1, 2, 3, 4, 5, 6, 7, 8, 9, 10] rfl
        refine va_calli (va_runV (As := [.int (nI (c0 + j)), .int (nI (CA (c0 + j)))]) (rest := [.int (nI (c0 + j)), .ref cfA]) ⟨hx, hb, hml, hown, hts⟩ (m_In_resolve l dC dI cI cB cL cZ cR h sk b_y fdA dpA fcA naA ch cat cfA flA (.ref ln) (it_sha) (it_form) (it_linesOfFile) (sk_from) (sk_hashes) (sk_byHash) (sk_leansOn) (sk_leantBy) (sk_lines) (.ref cpA) (ch_adds) (.int (nI NF0)) f fdf dpf fcf nu ca cfu flu DP FC CA CF1 (clX f CA CL c0 NL0) P D0 nd (c0 + j) (CA (c0 + j)) (NLs f CA c0 NL0 j) (NFs f CA c0 NF0 j) H.size hvv.1 hvv.2.1 hvv.2.2.1 hvv.2.2.2.1 hvv.2.2.2.2.1 hvv.2.2.2.2.2 hgA.1 (by omega) (by omega) hP5 gE0 gE1 hnd hDr gD gC (by omega) (fun i z => Nat.le_trans (gL i z) (by omega)) (fun i z => gA i (by omega)) h3 (fun i z => gI i (by omega)) (fun i z => gN i (by omega)) h5) (cwV 2 hts (xg_V gw_872 gw_874 (xg_p 20 (q := (⟨"PatchStore$Intake", "resolve", "(II)I"⟩, 9)) (by decide +kernel)) gw_6 gw_875) rfl rfl rfl (by decide +kernel) ⟨Nat.le_of_ble_eq_true rfl, Nat.le_of_ble_eq_true rfl⟩) ⟨xw_blind, va_recv hK hPc (ci := 3) (q0 := 0) rfl rfl, fun U hU hW => ⟨rfl, by rw [hU], by rw [hU]; exact hPc, va_K.moved hW.alike hK, hDc.weaken (fun _ _ _ _ => trivial)⟩⟩ rfl rfl hl.1 rfl (lv_room (Nat.le_of_ble_eq_true rfl)) d_In_resolveAll_102 ⟨Nat.le_of_ble_eq_true rfl, Nat.le_of_ble_eq_true rfl⟩) hS (fun q _ h => hFc q h) hFc (fun r9 un t H1 locs ht hvm hw hB hz1 hk1 hS => ?_)
        obtain ⟨yy, un, uf, ul, uk⟩ := un
        dsimp only at hw
        obtain ⟨hP1, hK1, hD1⟩ := hB
        rw [ht] at hP1
        obtain ⟨hP, hD⟩ := va_join (wr := [(cpA, .inl (cI, 38000, .inl (upd cpu (c0 + j) (nI P)))), (ln, .inr (4, [ln_at, ln_length, ln_change, ln_place, ln_up, ln_down, ln_ofFile, .int (nI NL0)]))]) (w1 := [(h, .inr (3, [.ref sk, .ref ch, .ref ln, it_sha, it_form, .ref naA, it_linesOfFile, .int (nI uk), .int (nI ul)])), (sk, .inr (9, [.ref b_y, sk_from, .ref fdA, .ref fcA, .ref dpA, sk_hashes, sk_byHash, sk_leansOn, sk_leantBy, .ref ch, sk_lines, .int (nI P)])), (b_y, .inl (cB, 290000, .inl f)), (fdA, .inl (cI, 502, .inl fdf)), (dpA, .inl (cI, 8400, .inl dpf)), (fcA, .inl (cI, 502, .inl fcf)), (naA, .inl (cI, 2048, .inl un)), (ch, .inr (1, [.ref cat, .ref cpA, .ref cfA, .ref flA, ch_adds, .int (nI NF0)])), (cat, .inl (cI, 38000, .inl ca)), (cfA, .inl (cI, 38000, .inl cfu)), (flA, .inl (cI, 38000, .inl uf))]) hP hD [0, 1, 2, 3, 4, 5, 6, 7, 8, 9, 10] [11, 12] rfl rfl (by decide) (by decide) hk1 hFc hP1 hD1
        generalize H1 = H at hP hS ⊢
        have hP : va_P (dC, dI) classes [(cpA, .inl (cI, 38000, .inl (upd cpu (c0 + j) (nI P)))), (ln, .inr (4, [ln_at, ln_length, ln_change, ln_place, ln_up, ln_down, ln_ofFile, .int (nI NL0)])), (h, .inr (3, [.ref sk, .ref ch, .ref ln, it_sha, it_form, .ref naA, it_linesOfFile, .int (nI uk), .int (nI ul)])), (sk, .inr (9, [.ref b_y, sk_from, .ref fdA, .ref fcA, .ref dpA, sk_hashes, sk_byHash, sk_leansOn, sk_leantBy, .ref ch, sk_lines, .int (nI P)])), (b_y, .inl (cB, 290000, .inl f)), (fdA, .inl (cI, 502, .inl fdf)), (dpA, .inl (cI, 8400, .inl dpf)), (fcA, .inl (cI, 502, .inl fcf)), (naA, .inl (cI, 2048, .inl un)), (ch, .inr (1, [.ref cat, .ref cpA, .ref cfA, .ref flA, ch_adds, .int (nI NF0)])), (cat, .inl (cI, 38000, .inl ca)), (cfA, .inl (cI, 38000, .inl cfu)), (flA, .inl (cI, 38000, .inl uf))] H := hP
        have hD : va_D A [(cpA, .inl (cI, 38000, .inl (upd cpu (c0 + j) (nI P)))), (ln, .inr (4, [ln_at, ln_length, ln_change, ln_place, ln_up, ln_down, ln_ofFile, .int (nI NL0)])), (h, .inr (3, [.ref sk, .ref ch, .ref ln, it_sha, it_form, .ref naA, it_linesOfFile, .int (nI uk), .int (nI ul)])), (sk, .inr (9, [.ref b_y, sk_from, .ref fdA, .ref fcA, .ref dpA, sk_hashes, sk_byHash, sk_leansOn, sk_leantBy, .ref ch, sk_lines, .int (nI P)])), (b_y, .inl (cB, 290000, .inl f)), (fdA, .inl (cI, 502, .inl fdf)), (dpA, .inl (cI, 8400, .inl dpf)), (fcA, .inl (cI, 502, .inl fcf)), (naA, .inl (cI, 2048, .inl un)), (ch, .inr (1, [.ref cat, .ref cpA, .ref cfA, .ref flA, ch_adds, .int (nI NF0)])), (cat, .inl (cI, 38000, .inl ca)), (cfA, .inl (cI, 38000, .inl cfu)), (flA, .inl (cI, 38000, .inl uf))] := hD
        rcases hw with ⟨hRR, rfl, rfl, rfl, rfl, rfl⟩ | ⟨rfl, hRR, huf⟩
        · have hP : va_P (dC, dI) classes [(cpA, .inl (cI, 38000, .inl (upd cpu (c0 + j) (nI P)))), (ln, .inr (4, [ln_at, ln_length, ln_change, ln_place, ln_up, ln_down, ln_ofFile, .int (nI NL0)])), (h, .inr (3, [.ref sk, .ref ch, .ref ln, it_sha, it_form, .ref naA, it_linesOfFile, .int (nI (NFX f (NFs f CA c0 NF0 j) (CA (c0 + j)))), .int (nI (NLX f (NLs f CA c0 NL0 j) (CA (c0 + j))))])), (sk, .inr (9, [.ref b_y, sk_from, .ref fdA, .ref fcA, .ref dpA, sk_hashes, sk_byHash, sk_leansOn, sk_leantBy, .ref ch, sk_lines, .int (nI P)])), (b_y, .inl (cB, 290000, .inl f)), (fdA, .inl (cI, 502, .inl fdf)), (dpA, .inl (cI, 8400, .inl dpf)), (fcA, .inl (cI, 502, .inl fcf)), (naA, .inl (cI, 2048, .inl (nmX f nd (CA (c0 + j)) nu))), (ch, .inr (1, [.ref cat, .ref cpA, .ref cfA, .ref flA, ch_adds, .int (nI NF0)])), (cat, .inl (cI, 38000, .inl ca)), (cfA, .inl (cI, 38000, .inl cfu)), (flA, .inl (cI, 38000, .inl (flX f (c0 + j) (NLs f CA c0 NL0 j) (CA (c0 + j)) flu)))] H := hP
          have hD : va_D A [(cpA, .inl (cI, 38000, .inl (upd cpu (c0 + j) (nI P)))), (ln, .inr (4, [ln_at, ln_length, ln_change, ln_place, ln_up, ln_down, ln_ofFile, .int (nI NL0)])), (h, .inr (3, [.ref sk, .ref ch, .ref ln, it_sha, it_form, .ref naA, it_linesOfFile, .int (nI (NFX f (NFs f CA c0 NF0 j) (CA (c0 + j)))), .int (nI (NLX f (NLs f CA c0 NL0 j) (CA (c0 + j))))])), (sk, .inr (9, [.ref b_y, sk_from, .ref fdA, .ref fcA, .ref dpA, sk_hashes, sk_byHash, sk_leansOn, sk_leantBy, .ref ch, sk_lines, .int (nI P)])), (b_y, .inl (cB, 290000, .inl f)), (fdA, .inl (cI, 502, .inl fdf)), (dpA, .inl (cI, 8400, .inl dpf)), (fcA, .inl (cI, 502, .inl fcf)), (naA, .inl (cI, 2048, .inl (nmX f nd (CA (c0 + j)) nu))), (ch, .inr (1, [.ref cat, .ref cpA, .ref cfA, .ref flA, ch_adds, .int (nI NF0)])), (cat, .inl (cI, 38000, .inl ca)), (cfA, .inl (cI, 38000, .inl cfu)), (flA, .inl (cI, 38000, .inl (flX f (c0 + j) (NLs f CA c0 NL0 j) (CA (c0 + j)) flu)))] := hD
          have hyy : yy < 40000 := rsR.lt (fun i z => (gD i z).2) (fun i z => Nat.le_trans (gL i z) (by omega)) (fun i z => (h3 i z).2) (fun _ => by omega) hRR
          refine va_iast hx hb hK hP hD hS 11 0 rfl rfl (vp_in_nI (by omega) (by omega)) d_In_resolveAll_105 (fun H locs hP hD hS => ?_)
          rw [show (nI (c0 + j)).toNatClampNeg = (c0 + j) from nI_clamp (by omega)] at hP hD
          have hP : va_P (dC, dI) classes [(cpA, .inl (cI, 38000, .inl (upd cpu (c0 + j) (nI P)))), (ln, .inr (4, [ln_at, ln_length, ln_change, ln_place, ln_up, ln_down, ln_ofFile, .int (nI NL0)])), (h, .inr (3, [.ref sk, .ref ch, .ref ln, it_sha, it_form, .ref naA, it_linesOfFile, .int (nI (NFX f (NFs f CA c0 NF0 j) (CA (c0 + j)))), .int (nI (NLX f (NLs f CA c0 NL0 j) (CA (c0 + j))))])), (sk, .inr (9, [.ref b_y, sk_from, .ref fdA, .ref fcA, .ref dpA, sk_hashes, sk_byHash, sk_leansOn, sk_leantBy, .ref ch, sk_lines, .int (nI P)])), (b_y, .inl (cB, 290000, .inl f)), (fdA, .inl (cI, 502, .inl fdf)), (dpA, .inl (cI, 8400, .inl dpf)), (fcA, .inl (cI, 502, .inl fcf)), (naA, .inl (cI, 2048, .inl (nmX f nd (CA (c0 + j)) nu))), (ch, .inr (1, [.ref cat, .ref cpA, .ref cfA, .ref flA, ch_adds, .int (nI NF0)])), (cat, .inl (cI, 38000, .inl ca)), (cfA, .inl (cI, 38000, .inl (upd cfu (c0 + j) (nI yy)))), (flA, .inl (cI, 38000, .inl (flX f (c0 + j) (NLs f CA c0 NL0 j) (CA (c0 + j)) flu)))] H := hP
          have hD : va_D A [(cpA, .inl (cI, 38000, .inl (upd cpu (c0 + j) (nI P)))), (ln, .inr (4, [ln_at, ln_length, ln_change, ln_place, ln_up, ln_down, ln_ofFile, .int (nI NL0)])), (h, .inr (3, [.ref sk, .ref ch, .ref ln, it_sha, it_form, .ref naA, it_linesOfFile, .int (nI (NFX f (NFs f CA c0 NF0 j) (CA (c0 + j)))), .int (nI (NLX f (NLs f CA c0 NL0 j) (CA (c0 + j))))])), (sk, .inr (9, [.ref b_y, sk_from, .ref fdA, .ref fcA, .ref dpA, sk_hashes, sk_byHash, sk_leansOn, sk_leantBy, .ref ch, sk_lines, .int (nI P)])), (b_y, .inl (cB, 290000, .inl f)), (fdA, .inl (cI, 502, .inl fdf)), (dpA, .inl (cI, 8400, .inl dpf)), (fcA, .inl (cI, 502, .inl fcf)), (naA, .inl (cI, 2048, .inl (nmX f nd (CA (c0 + j)) nu))), (ch, .inr (1, [.ref cat, .ref cpA, .ref cfA, .ref flA, ch_adds, .int (nI NF0)])), (cat, .inl (cI, 38000, .inl ca)), (cfA, .inl (cI, 38000, .inl (upd cfu (c0 + j) (nI yy)))), (flA, .inl (cI, 38000, .inl (flX f (c0 + j) (NLs f CA c0 NL0 j) (CA (c0 + j)) flu)))] := hD
          refine lv_aload_n hx hb d_In_resolveAll_106 rfl (lv_at hl 0 rfl) ?_
          refine va_get (D := (dC, dI)) (ci := 3) (v := .ref ch) (C := R_In) (T := F_In) (N := 9) hx hb hts i_In hown hK hP 2 rfl rfl 1 (by decide) (hts _ gw_285) (fun _ h9 => h9) rfl d_In_resolveAll_107 ?_
          refine va_get (D := (dC, dI)) (ci := 1) (v := .ref cfA) (C := R_Ch) (T := F_Ch) (N := 6) hx hb hts i_Ch hown hK hP 9 rfl rfl 2 (by decide) (hts _ gw_102) (fun _ h9 => h9) rfl d_In_resolveAll_110 ?_
          refine lv_iload_n hx hb d_In_resolveAll_113 rfl (lv_at hl 1 rfl) ?_
          refine va_iald hx hb hK hP 11 0 rfl rfl (vp_in_nI (by omega) (by omega)) d_In_resolveAll_114 ?_
          rw [show (nI (c0 + j)).toNatClampNeg = (c0 + j) from nI_clamp (by omega)]
          refine lv_topi (fun x_5 ex_5 => ?_)
          obtain rfl : x_5 = nI yy := by rw [ex_5]; first | done | (exact upd_eq _ _ _)
          refine lv_iconst (v := (-1)) hx hb d_In_resolveAll_115 (by decide) ?_
          refine lv_icmp_ne (tgt := 121) hx hb d_In_resolveAll_116 (by decide) (fun _ => ?_) (fun c_116 => absurd c_116 (fun z => nI_nm1 (by omega) z.symm))
          refine lv_iinc (v := nI (c0 + j + 1)) (lv' := [(1, .int (nI (c0 + j + 1))), (0, .ref h)]) hx hb d_In_resolveAll_121 hl (k := 1) rfl (by exact nI_add _ _) (by decide) rfl (fun ls hl => ?_)
          refine lv_goto (tgt := 46) hx hb d_In_resolveAll_124 (by decide) ?_
          exact ih_46 (j + 1) (upN CF1 (c0 + j) yy) (nmX f nd (CA (c0 + j)) nu) (upd cfu (c0 + j) (nI yy)) (flX f (c0 + j) (NLs f CA c0 NL0 j) (CA (c0 + j)) flu) (upd cpu (c0 + j) (nI P)) _ _ _ (by omega) (by omega) (fun i z => (upN_ne _ (by omega)).trans (h1 i z)) (rsA.step (fun i z => (gD i z).2) gL h2 hRR) (fun i z => if e9 : i = c0 + j then by rw [e9, upd_eq, upN_eq]; exact ⟨rfl, hyy⟩ else by rw [upd_ne _ e9, upN_ne _ e9]; exact h3 i (by omega)) (by rw [h4]; rfl) (flX_step h5 hNb) (fun i z => (upd_ne _ (by omega)).trans (h6 i z)) (fun i z1 z2 => if e9 : i = c0 + j then by rw [e9, upd_eq] else (upd_ne _ e9).trans (h7 i z1 (by omega))) (fun i z => (flX_ne (by omega)).trans (h8 i z)) (hP.sub [2, 3, 4, 5, 6, 7, 8, 9, 10, 11, 12, 0, 1] rfl) (hD.sub [2, 3, 4, 5, 6, 7, 8, 9, 10, 11, 12, 0, 1] (by decide) rfl) hS (lv_sub hl [1, 0] rfl)
        · have hP : va_P (dC, dI) classes [(cpA, .inl (cI, 38000, .inl (upd cpu (c0 + j) (nI P)))), (ln, .inr (4, [ln_at, ln_length, ln_change, ln_place, ln_up, ln_down, ln_ofFile, .int (nI NL0)])), (h, .inr (3, [.ref sk, .ref ch, .ref ln, it_sha, it_form, .ref naA, it_linesOfFile, .int (nI uk), .int (nI ul)])), (sk, .inr (9, [.ref b_y, sk_from, .ref fdA, .ref fcA, .ref dpA, sk_hashes, sk_byHash, sk_leansOn, sk_leantBy, .ref ch, sk_lines, .int (nI P)])), (b_y, .inl (cB, 290000, .inl f)), (fdA, .inl (cI, 502, .inl fdf)), (dpA, .inl (cI, 8400, .inl dpf)), (fcA, .inl (cI, 502, .inl fcf)), (naA, .inl (cI, 2048, .inl un)), (ch, .inr (1, [.ref cat, .ref cpA, .ref cfA, .ref flA, ch_adds, .int (nI NF0)])), (cat, .inl (cI, 38000, .inl ca)), (cfA, .inl (cI, 38000, .inl cfu)), (flA, .inl (cI, 38000, .inl uf))] H := hP
          have hD : va_D A [(cpA, .inl (cI, 38000, .inl (upd cpu (c0 + j) (nI P)))), (ln, .inr (4, [ln_at, ln_length, ln_change, ln_place, ln_up, ln_down, ln_ofFile, .int (nI NL0)])), (h, .inr (3, [.ref sk, .ref ch, .ref ln, it_sha, it_form, .ref naA, it_linesOfFile, .int (nI uk), .int (nI ul)])), (sk, .inr (9, [.ref b_y, sk_from, .ref fdA, .ref fcA, .ref dpA, sk_hashes, sk_byHash, sk_leansOn, sk_leantBy, .ref ch, sk_lines, .int (nI P)])), (b_y, .inl (cB, 290000, .inl f)), (fdA, .inl (cI, 502, .inl fdf)), (dpA, .inl (cI, 8400, .inl dpf)), (fcA, .inl (cI, 502, .inl fcf)), (naA, .inl (cI, 2048, .inl un)), (ch, .inr (1, [.ref cat, .ref cpA, .ref cfA, .ref flA, ch_adds, .int (nI NF0)])), (cat, .inl (cI, 38000, .inl ca)), (cfA, .inl (cI, 38000, .inl cfu)), (flA, .inl (cI, 38000, .inl uf))] := hD
          refine va_iast hx hb hK hP hD hS 11 0 rfl rfl (vp_in_nI (by omega) (by omega)) d_In_resolveAll_105 (fun H locs hP hD hS => ?_)
          rw [show (nI (c0 + j)).toNatClampNeg = (c0 + j) from nI_clamp (by omega)] at hP hD
          have hP : va_P (dC, dI) classes [(cpA, .inl (cI, 38000, .inl (upd cpu (c0 + j) (nI P)))), (ln, .inr (4, [ln_at, ln_length, ln_change, ln_place, ln_up, ln_down, ln_ofFile, .int (nI NL0)])), (h, .inr (3, [.ref sk, .ref ch, .ref ln, it_sha, it_form, .ref naA, it_linesOfFile, .int (nI uk), .int (nI ul)])), (sk, .inr (9, [.ref b_y, sk_from, .ref fdA, .ref fcA, .ref dpA, sk_hashes, sk_byHash, sk_leansOn, sk_leantBy, .ref ch, sk_lines, .int (nI P)])), (b_y, .inl (cB, 290000, .inl f)), (fdA, .inl (cI, 502, .inl fdf)), (dpA, .inl (cI, 8400, .inl dpf)), (fcA, .inl (cI, 502, .inl fcf)), (naA, .inl (cI, 2048, .inl un)), (ch, .inr (1, [.ref cat, .ref cpA, .ref cfA, .ref flA, ch_adds, .int (nI NF0)])), (cat, .inl (cI, 38000, .inl ca)), (cfA, .inl (cI, 38000, .inl (upd cfu (c0 + j) (-1)))), (flA, .inl (cI, 38000, .inl uf))] H := hP
          have hD : va_D A [(cpA, .inl (cI, 38000, .inl (upd cpu (c0 + j) (nI P)))), (ln, .inr (4, [ln_at, ln_length, ln_change, ln_place, ln_up, ln_down, ln_ofFile, .int (nI NL0)])), (h, .inr (3, [.ref sk, .ref ch, .ref ln, it_sha, it_form, .ref naA, it_linesOfFile, .int (nI uk), .int (nI ul)])), (sk, .inr (9, [.ref b_y, sk_from, .ref fdA, .ref fcA, .ref dpA, sk_hashes, sk_byHash, sk_leansOn, sk_leantBy, .ref ch, sk_lines, .int (nI P)])), (b_y, .inl (cB, 290000, .inl f)), (fdA, .inl (cI, 502, .inl fdf)), (dpA, .inl (cI, 8400, .inl dpf)), (fcA, .inl (cI, 502, .inl fcf)), (naA, .inl (cI, 2048, .inl un)), (ch, .inr (1, [.ref cat, .ref cpA, .ref cfA, .ref flA, ch_adds, .int (nI NF0)])), (cat, .inl (cI, 38000, .inl ca)), (cfA, .inl (cI, 38000, .inl (upd cfu (c0 + j) (-1)))), (flA, .inl (cI, 38000, .inl uf))] := hD
          refine lv_aload_n hx hb d_In_resolveAll_106 rfl (lv_at hl 0 rfl) ?_
          refine va_get (D := (dC, dI)) (ci := 3) (v := .ref ch) (C := R_In) (T := F_In) (N := 9) hx hb hts i_In hown hK hP 2 rfl rfl 1 (by decide) (hts _ gw_285) (fun _ h9 => h9) rfl d_In_resolveAll_107 ?_
          refine va_get (D := (dC, dI)) (ci := 1) (v := .ref cfA) (C := R_Ch) (T := F_Ch) (N := 6) hx hb hts i_Ch hown hK hP 9 rfl rfl 2 (by decide) (hts _ gw_102) (fun _ h9 => h9) rfl d_In_resolveAll_110 ?_
          refine lv_iload_n hx hb d_In_resolveAll_113 rfl (lv_at hl 1 rfl) ?_
          refine va_iald hx hb hK hP 11 0 rfl rfl (vp_in_nI (by omega) (by omega)) d_In_resolveAll_114 ?_
          rw [show (nI (c0 + j)).toNatClampNeg = (c0 + j) from nI_clamp (by omega)]
          refine lv_topi (fun x_6 ex_6 => ?_)
          obtain rfl : x_6 = (-1) := by rw [ex_6]; first | done | (exact upd_eq _ _ _)
          refine lv_iconst (v := (-1)) hx hb d_In_resolveAll_115 (by decide) ?_
          refine lv_icmp_ne (tgt := 121) hx hb d_In_resolveAll_116 (by decide) (fun c_116 => absurd c_116 (by decide)) (fun _ => ?_)
          refine lv_iconst (v := 0) hx hb d_In_resolveAll_119 (by decide) ?_
          have hP := hP.sub (ws' := [(h, .inr (3, [.ref sk, .ref ch, .ref ln, it_sha, it_form, .ref naA, it_linesOfFile, .int (nI uk), .int (nI ul)])), (sk, .inr (9, [.ref b_y, sk_from, .ref fdA, .ref fcA, .ref dpA, sk_hashes, sk_byHash, sk_leansOn, sk_leantBy, .ref ch, sk_lines, .int (nI P)])), (b_y, .inl (cB, 290000, .inl f)), (fdA, .inl (cI, 502, .inl fdf)), (dpA, .inl (cI, 8400, .inl dpf)), (fcA, .inl (cI, 502, .inl fcf)), (naA, .inl (cI, 2048, .inl un)), (ch, .inr (1, [.ref cat, .ref cpA, .ref cfA, .ref flA, ch_adds, .int (nI NF0)])), (cat, .inl (cI, 38000, .inl ca)), (cfA, .inl (cI, 38000, .inl (upd cfu (c0 + j) (-1)))), (flA, .inl (cI, 38000, .inl uf)), (cpA, .inl (cI, 38000, .inl (upd cpu (c0 + j) (nI P)))), (ln, .inr (4, [ln_at, ln_length, ln_change, ln_place, ln_up, ln_down, ln_ofFile, .int (nI NL0)]))]) [2, 3, 4, 5, 6, 7, 8, 9, 10, 11, 12, 0, 1] rfl
          have hD := hD.sub (ws' := [(h, .inr (3, [.ref sk, .ref ch, .ref ln, it_sha, it_form, .ref naA, it_linesOfFile, .int (nI uk), .int (nI ul)])), (sk, .inr (9, [.ref b_y, sk_from, .ref fdA, .ref fcA, .ref dpA, sk_hashes, sk_byHash, sk_leansOn, sk_leantBy, .ref ch, sk_lines, .int (nI P)])), (b_y, .inl (cB, 290000, .inl f)), (fdA, .inl (cI, 502, .inl fdf)), (dpA, .inl (cI, 8400, .inl dpf)), (fcA, .inl (cI, 502, .inl fcf)), (naA, .inl (cI, 2048, .inl un)), (ch, .inr (1, [.ref cat, .ref cpA, .ref cfA, .ref flA, ch_adds, .int (nI NF0)])), (cat, .inl (cI, 38000, .inl ca)), (cfA, .inl (cI, 38000, .inl (upd cfu (c0 + j) (-1)))), (flA, .inl (cI, 38000, .inl uf)), (cpA, .inl (cI, 38000, .inl (upd cpu (c0 + j) (nI P)))), (ln, .inr (4, [ln_at, ln_length, ln_change, ln_place, ln_up, ln_down, ln_ofFile, .int (nI NL0)]))]) [2, 3, 4, 5, 6, 7, 8, 9, 10, 11, 12, 0, 1] (by decide) rfl
          rw [← hQe]
          exact W.zret (v := 0) hx hb hr nz_b0 (fun t ht hW => ⟨⟨_, (CF1, un, upd cfu (c0 + j) (-1), uf, upd cpu (c0 + j) (nI P), ul, uk), rfl, ⟨Or.inr ⟨rfl, rsA.no hnd (fun i z => (gD i z).2) gL h1 h2 (by omega) hRR⟩, fun i z => ⟨(upd_ne _ (by omega)).trans ((h3 i (by omega)).1.trans ((congrArg nI (h1 i z)).trans (gF i z).1.symm)), (huf i (by omega)).trans (h8 i z), (upd_ne _ (by omega)).trans (h6 i z)⟩⟩, by rw [ht]; exact hP, va_K.moved hW.alike hK, hD⟩, hS.F ht⟩) hS.2.2 d_In_resolveAll_120
  exact loop_46 _ 0 CF z0 cff flf cpf _ _ _ (Nat.lt_succ_self _) (Nat.zero_le _) (fun _ _ => rfl) (fun i z => absurd z (Nat.not_lt_zero _)) (gF) (rfl) (fun i z q => by rw [show clX f CA CL c0 NL0 i = CL i from if_pos z]; exact gCL i z q) (fun _ _ => rfl) (fun i z1 z2 => absurd z1 (by omega)) (fun _ _ => rfl) (hP.sub [0, 1, 2, 3, 4, 5, 12, 6, 7, 8, 9, 10, 11] rfl) (hD.sub [0, 1, 2, 3, 4, 5, 12, 6, 7, 8, 9, 10, 11] (by decide) rfl) hS (lv_sub hl [1, 0] rfl)
end
