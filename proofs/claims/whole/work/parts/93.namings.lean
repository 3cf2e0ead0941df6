/-! 93.namings.lean.txt -/
def y_Vw_namingAt : MethodName := ⟨"PatchStore$View", "namingAt", "(II)I"⟩
abbrev c_Vw_namingAt : Cond := (Jvm.Cond.code ({ cls := "PatchStore$View", name := "namingAt", desc := "(II)I" } : Jvm.MethodName) prog_12_method_6_code (5 : Nat) (Option.some Jvm.ClassFile.FieldType.int))
abbrev ws_Vw_namingAt : List Cond := c_Vw_namingAt :: xg_1
theorem d_Vw_namingAt_0 : decode prog_12_method_6_code 0 = .ok (.iconst 0, 1) := by decide +kernel
theorem d_Vw_namingAt_1 : decode prog_12_method_6_code 1 = .ok (.istore_n 3, 1) := by decide +kernel
theorem d_Vw_namingAt_2 : decode prog_12_method_6_code 2 = .ok (.iconst 0, 1) := by decide +kernel
theorem d_Vw_namingAt_3 : decode prog_12_method_6_code 3 = .ok (.istore 4, 2) := by decide +kernel
theorem d_Vw_namingAt_5 : decode prog_12_method_6_code 5 = .ok (.iload 4, 2) := by decide +kernel
theorem d_Vw_namingAt_7 : decode prog_12_method_6_code 7 = .ok (.aload_n 0, 1) := by decide +kernel
theorem d_Vw_namingAt_8 : decode prog_12_method_6_code 8 = .ok (.getfield 76, 3) := by decide +kernel
theorem d_Vw_namingAt_11 : decode prog_12_method_6_code 11 = .ok (.if_icmp .ge 44, 3) := by decide +kernel
theorem d_Vw_namingAt_14 : decode prog_12_method_6_code 14 = .ok (.aload_n 0, 1) := by decide +kernel
theorem d_Vw_namingAt_15 : decode prog_12_method_6_code 15 = .ok (.getfield 44, 3) := by decide +kernel
theorem d_Vw_namingAt_18 : decode prog_12_method_6_code 18 = .ok (.getfield 111, 3) := by decide +kernel
theorem d_Vw_namingAt_21 : decode prog_12_method_6_code 21 = .ok (.aload_n 0, 1) := by decide +kernel
theorem d_Vw_namingAt_22 : decode prog_12_method_6_code 22 = .ok (.getfield 18, 3) := by decide +kernel
theorem d_Vw_namingAt_25 : decode prog_12_method_6_code 25 = .ok (.iload 4, 2) := by decide +kernel
theorem d_Vw_namingAt_27 : decode prog_12_method_6_code 27 = .ok (.iaload, 1) := by decide +kernel
theorem d_Vw_namingAt_28 : decode prog_12_method_6_code 28 = .ok (.iaload, 1) := by decide +kernel
theorem d_Vw_namingAt_29 : decode prog_12_method_6_code 29 = .ok (.iload_n 1, 1) := by decide +kernel
theorem d_Vw_namingAt_30 : decode prog_12_method_6_code 30 = .ok (.if_icmp .ne 19, 3) := by decide +kernel
theorem d_Vw_namingAt_33 : decode prog_12_method_6_code 33 = .ok (.iload_n 3, 1) := by decide +kernel
theorem d_Vw_namingAt_34 : decode prog_12_method_6_code 34 = .ok (.iload_n 2, 1) := by decide +kernel
theorem d_Vw_namingAt_35 : decode prog_12_method_6_code 35 = .ok (.if_icmp .ne 11, 3) := by decide +kernel
theorem d_Vw_namingAt_38 : decode prog_12_method_6_code 38 = .ok (.aload_n 0, 1) := by decide +kernel
theorem d_Vw_namingAt_39 : decode prog_12_method_6_code 39 = .ok (.getfield 18, 3) := by decide +kernel
theorem d_Vw_namingAt_42 : decode prog_12_method_6_code 42 = .ok (.iload 4, 2) := by decide +kernel
theorem d_Vw_namingAt_44 : decode prog_12_method_6_code 44 = .ok (.iaload, 1) := by decide +kernel
theorem d_Vw_namingAt_45 : decode prog_12_method_6_code 45 = .ok (.ireturn, 1) := by decide +kernel
theorem d_Vw_namingAt_46 : decode prog_12_method_6_code 46 = .ok (.iinc 3 1, 3) := by decide +kernel
theorem d_Vw_namingAt_49 : decode prog_12_method_6_code 49 = .ok (.iinc 4 1, 3) := by decide +kernel
theorem d_Vw_namingAt_52 : decode prog_12_method_6_code 52 = .ok (.goto (-47), 3) := by decide +kernel
theorem d_Vw_namingAt_55 : decode prog_12_method_6_code 55 = .ok (.iconst (-1), 1) := by decide +kernel
theorem d_Vw_namingAt_56 : decode prog_12_method_6_code 56 = .ok (.ireturn, 1) := by decide +kernel
theorem ftk_at {g : Nat → Bool} {L : List Nat} {i : Nat} (h : i < L.length) (hg : g (L.getD i 0) = true) : ftN g L i < (L.filter g).length ∧ (L.filter g).getD (ftN g L i) 0 = L.getD i 0 := by
  have e1 : L.filter g = ftk g L (i + 1) ++ (L.drop (i + 1)).filter g := by
    unfold ftk
    rw [← List.filter_append, List.take_append_drop]
  rw [ftk_step g h, if_pos hg] at e1
  have e2 : ftN g L i = (ftk g L i).length := rfl
  rw [e1, e2, List.append_assoc]
  constructor
  · rw [List.length_append, List.length_append]
    show _ < _ + (1 + _)
    omega
  · rw [List.getD_eq_getElem?_getD, List.getElem?_append_right (Nat.le_refl _), Nat.sub_self]
    rfl
theorem ftN_all (g : Nat → Bool) (L : List Nat) : ftN g L L.length = (L.filter g).length := congrArg List.length (ftk_all g L)
/-- the change is of file y -/
def ofF (S : Stk) (y c : Nat) : Bool := S.CF c == y
theorem ofF_iff {S : Stk} {y c : Nat} : ofF S y c = true ↔ S.CF c = y := beq_iff_eq
/-- the file has more than one naming -/
def manyN (S : Stk) (NM : List Nat) (y : Nat) : Bool := decide (1 < nOf S y NM)
theorem manyN_iff {S : Stk} {NM : List Nat} {y : Nat} : manyN S NM y = true ↔ 1 < nOf S y NM := decide_eq_true_iff
set_option maxHeartbeats 4000000 in
set_option maxRecDepth 100000 in
/-- a naming of a file -/
theorem m_Vw_namingAt (l : Launch) (dC : Nat → ClassId) (dI : Nat → Nat → Nat) (cI cB cL cZ cR : ClassId) (h ch cfA vnA : Nat) (vw_files vw_namingsOf vw_fileTotal vw_stock vw_loaded vw_version vw_over vw_round vw_heads vw_nexts vw_sharing ch_at ch_patch ch_firstLine ch_adds ch_files : Value) (Z : StkA) (S : Stk) (vn : Nat → Int32) (L : List Nat) (y : Nat) (jj : Int32) (sz : Nat) (hAA : arrL vn L) (hcf : ∀ c, c ∈ L → Z.cf c = nI (S.CF c) ∧ c < 38000 ∧ S.CF c < 40000) (hLl : L.length ≤ 16800) (hy : y < 40000) : Met l y_Vw_namingAt ws_Vw_namingAt ({ frames := 0, cells := 0, slots := 0, locals := 0 }) (xw_Pc dC dI [(cI, .int), (cB, .byte), (cL, .long), (cZ, .boolean), (cR, .object "PatchStore$Repository")] [.ref h, .int (nI y), .int jj] [(h, .inr (11, [vw_files, vw_namingsOf, .ref vnA, vw_fileTotal, .int (nI L.length), vw_stock, .ref ch, vw_loaded, vw_version, vw_over, vw_round, vw_heads, vw_nexts, vw_sharing])), (ch, .inr (1, [ch_at, ch_patch, .ref cfA, ch_firstLine, ch_adds, ch_files])), (cfA, .inl (cI, 38000, .inl Z.cf)), (vnA, .inl (cI, 16800, .inl vn))] sz) (va_Qi (fun (r : Int32) (_ : Unit) => (∃ q, q < (L.filter (ofF S y)).length ∧ jj = nI q ∧ r = nI ((L.filter (ofF S y)).getD q 0)) ∨ (r = -1 ∧ ∀ q, q < (L.filter (ofF S y)).length → ¬ jj = nI q)) (fun _ t => xw_B dC dI [(cI, .int), (cB, .byte), (cL, .long), (cZ, .boolean), (cR, .object "PatchStore$Repository")] (va_A [(h, .inr (11, [vw_files, vw_namingsOf, .ref vnA, vw_fileTotal, .int (nI L.length), vw_stock, .ref ch, vw_loaded, vw_version, vw_over, vw_round, vw_heads, vw_nexts, vw_sharing])), (ch, .inr (1, [ch_at, ch_patch, .ref cfA, ch_firstLine, ch_adds, ch_files])), (cfA, .inl (cI, 38000, .inl Z.cf)), (vnA, .inl (cI, 16800, .inl vn))] sz) [(h, .inr (11, [vw_files, vw_namingsOf, .ref vnA, vw_fileTotal, .int (nI L.length), vw_stock, .ref ch, vw_loaded, vw_version, vw_over, vw_round, vw_heads, vw_nexts, vw_sharing])), (ch, .inr (1, [ch_at, ch_patch, .ref cfA, ch_firstLine, ch_adds, ch_files])), (cfA, .inl (cI, 38000, .inl Z.cf)), (vnA, .inl (cI, 16800, .inl vn))] t) (va_A [(h, .inr (11, [vw_files, vw_namingsOf, .ref vnA, vw_fileTotal, .int (nI L.length), vw_stock, .ref ch, vw_loaded, vw_version, vw_over, vw_round, vw_heads, vw_nexts, vw_sharing])), (ch, .inr (1, [ch_at, ch_patch, .ref cfA, ch_firstLine, ch_adds, ch_files])), (cfA, .inl (cI, 38000, .inl Z.cf)), (vnA, .inl (cI, 16800, .inl vn))] sz)) 0 0 (va_A [(h, .inr (11, [vw_files, vw_namingsOf, .ref vnA, vw_fileTotal, .int (nI L.length), vw_stock, .ref ch, vw_loaded, vw_version, vw_over, vw_round, vw_heads, vw_nexts, vw_sharing])), (ch, .inr (1, [ch_at, ch_patch, .ref cfA, ch_firstLine, ch_adds, ch_files])), (cfA, .inl (cI, 38000, .inl Z.cf)), (vnA, .inl (cI, 16800, .inl vn))] sz) := by
  refine Met.ofW (cc := prog_12_method_6_code) (maxL := 5) (ret := (Option.some Jvm.ClassFile.FieldType.int)) (by decide) rfl ?_
  intro p e s m args below meth c s₁ B hml hv
  obtain ⟨rfl, hsz, hP, hK, hD0⟩ := hv
  have hx := B.exec
  have hb := B.bytes
  have hr := B.returns
  have hts0 := atoms_spec (ws := ws_Vw_namingAt) B.pre
  have hts : ∀ w ∈ xg_1, w.before _ s = true := fun w h => hts0 w (List.mem_cons_of_mem _ h)
  have hown : s.vm.findClass "PatchStore$View" = some m.cls := findClass_of_methodNamed B.named
  have hlocks := B.notSynchronized
  subst hsz
  have hD := hD0.self (sz := s.heap.size)
  generalize hAe : va_A [(h, .inr (11, [vw_files, vw_namingsOf, .ref vnA, vw_fileTotal, .int (nI L.length), vw_stock, .ref ch, vw_loaded, vw_version, vw_over, vw_round, vw_heads, vw_nexts, vw_sharing])), (ch, .inr (1, [ch_at, ch_patch, .ref cfA, ch_firstLine, ch_adds, ch_files])), (cfA, .inl (cI, 38000, .inl Z.cf)), (vnA, .inl (cI, 16800, .inl vn))] s.heap.size = A at hD ⊢
  have hA : ∀ q : Nat, s.heap.size ≤ q → A q := fun q h => by rw [← hAe]; exact Or.inr h
  have hS : va_S A s.heap s.heap [] := va_S.rf
  have hl := lv_entry ([.ref h, .int (nI y), .int jj]) (n := 5) (Nat.le_of_ble_eq_true rfl)
  rw [lg_entry_eq]
  generalize (lg_sl ([.ref h, .int (nI y), .int jj]) ++ List.replicate (5 - (lg_sl ([.ref h, .int (nI y), .int jj])).length) Slot.unset).toArray = ls at hl ⊢
  have hl : lv_has ls 5 [(0, .ref h), (1, .int (nI y)), (2, .int jj)] := hl
  generalize hQe : MQ _ _ _ _ _ _ _ = Q
  refine lv_iconst (v := 0) hx hb d_Vw_namingAt_0 (by decide) ?_
  refine lv_istore_n (lv' := [(3, .int 0), (0, .ref h), (1, .int (nI y)), (2, .int jj)]) hx hb d_Vw_namingAt_1 rfl hl (by decide) rfl (fun ls hl => ?_)
  refine lv_iconst (v := 0) hx hb d_Vw_namingAt_2 (by decide) ?_
  refine lv_istore (lv' := [(4, .int 0), (3, .int 0), (0, .ref h), (1, .int (nI y)), (2, .int jj)]) hx hb d_Vw_namingAt_3 hl (by decide) rfl (fun ls hl => ?_)
  have loop_5 : ∀ (n9 : Nat) (i : Nat) (H : Heap) (locs : List Loc) (ls : Array Slot), L.length - i < n9 → (i ≤ L.length) → (∀ q, q < ftN (ofF S y) L i → ¬ jj = nI q) → va_P (dC, dI) classes [(h, .inr (11, [vw_files, vw_namingsOf, .ref vnA, vw_fileTotal, .int (nI L.length), vw_stock, .ref ch, vw_loaded, vw_version, vw_over, vw_round, vw_heads, vw_nexts, vw_sharing])), (ch, .inr (1, [ch_at, ch_patch, .ref cfA, ch_firstLine, ch_adds, ch_files])), (cfA, .inl (cI, 38000, .inl Z.cf)), (vnA, .inl (cI, 16800, .inl vn))] H → va_D A [(h, .inr (11, [vw_files, vw_namingsOf, .ref vnA, vw_fileTotal, .int (nI L.length), vw_stock, .ref ch, vw_loaded, vw_version, vw_over, vw_round, vw_heads, vw_nexts, vw_sharing])), (ch, .inr (1, [ch_at, ch_patch, .ref cfA, ch_firstLine, ch_adds, ch_files])), (cfA, .inl (cI, 38000, .inl Z.cf)), (vnA, .inl (cI, 16800, .inl vn))] → va_S A s.heap H locs → lv_has ls 5 [(0, .ref h), (1, .int (nI y)), (2, .int jj), (3, .int (nI (ftN (ofF S y) L i))), (4, .int (nI i))] → W p l e (headSpec ws_Vw_namingAt ({ frames := 0, cells := 0, slots := 0, locals := 0 })).room s m ([.ref h, .int (nI y), .int jj] : List Value).toArray below meth c H locs 0 0 Q (F0 m 5 ls []) := by
    intro n9
    induction n9 with
    | zero => intro i H locs ls hm; exact absurd hm (Nat.not_lt_zero _)
    | succ n9 ih_5 =>
      intro i H locs ls hm hi hq hP hD hS hl
      have hfk : ftN (ofF S y) L i ≤ i := ftk_le _ _ _
      refine lv_iload hx hb d_Vw_namingAt_5 (lv_at hl 4 rfl) ?_
      refine lv_aload_n hx hb d_Vw_namingAt_7 rfl (lv_at hl 0 rfl) ?_
      refine va_get (D := (dC, dI)) (ci := 11) (v := .int (nI L.length)) (C := R_Vw) (T := F_Vw) (N := 14) hx hb hts i_Vw hown hK hP 0 rfl rfl 4 (by decide) (hts _ gw_328) (fun _ h9 => h9) rfl d_Vw_namingAt_8 ?_
      refine lv_icmp_ge (tgt := 55) hx hb d_Vw_namingAt_11 (by decide) (fun c_11 => ?_) (fun c_11 => ?_)
      · have n_11 : L.length ≤ i := (nI_leI (a := L.length) (b := i) (by omega) (by omega)).mp c_11
        refine lv_iconst (v := (-1)) hx hb d_Vw_namingAt_55 (by decide) ?_
        rw [← hQe]
        exact W.iret (v := (-1)) hx hb hr (fun t ht hW => ⟨⟨_, (), rfl, Or.inr ⟨rfl, fun q z => hq q (by rw [show i = L.length by omega, ftN_all]; exact z)⟩, by rw [ht]; exact hP, va_K.moved hW.alike hK, hD⟩, hS.F ht⟩) hS.2.2 d_Vw_namingAt_56
      · have n_11 : i < L.length := Nat.lt_of_not_le (fun z => c_11 ((nI_leI (a := L.length) (b := i) (by omega) (by omega)).mpr z))
        have hcc := (hcf _ (getD_mem n_11)).2
        refine lv_aload_n hx hb d_Vw_namingAt_14 rfl (lv_at hl 0 rfl) ?_
        refine va_get (D := (dC, dI)) (ci := 11) (v := .ref ch) (C := R_Vw) (T := F_Vw) (N := 14) hx hb hts i_Vw hown hK hP 0 rfl rfl 6 (by decide) (hts _ gw_331) (fun _ h9 => h9) rfl d_Vw_namingAt_15 ?_
        refine va_get (D := (dC, dI)) (ci := 1) (v := .ref cfA) (C := R_Ch) (T := F_Ch) (N := 6) hx hb hts i_Ch hown hK hP 1 rfl rfl 2 (by decide) (hts _ gw_100) (fun _ h9 => h9) rfl d_Vw_namingAt_18 ?_
        refine lv_aload_n hx hb d_Vw_namingAt_21 rfl (lv_at hl 0 rfl) ?_
        refine va_get (D := (dC, dI)) (ci := 11) (v := .ref vnA) (C := R_Vw) (T := F_Vw) (N := 14) hx hb hts i_Vw hown hK hP 0 rfl rfl 2 (by decide) (hts _ gw_324) (fun _ h9 => h9) rfl d_Vw_namingAt_22 ?_
        refine lv_iload hx hb d_Vw_namingAt_25 (lv_at hl 4 rfl) ?_
        refine va_iald hx hb hK hP 3 0 rfl rfl (vp_in_nI (by omega) (by omega)) d_Vw_namingAt_27 ?_
        rw [show (nI i).toNatClampNeg = i from nI_clamp (by omega)]
        refine lv_topi (fun x_1 ex_1 => ?_)
        obtain rfl : x_1 = nI (L.getD i 0) := by rw [ex_1]; first | done | (exact hAA i n_11)
        refine va_iald hx hb hK hP 2 0 rfl rfl (vp_in_nI (by omega) (by omega)) d_Vw_namingAt_28 ?_
        rw [show (nI (L.getD i 0)).toNatClampNeg = (L.getD i 0) from nI_clamp (by omega)]
        refine lv_topi (fun x_2 ex_2 => ?_)
        obtain rfl : x_2 = nI (S.CF (L.getD i 0)) := by rw [ex_2]; first | done | (exact (hcf _ (getD_mem n_11)).1)
        refine lv_iload_n hx hb d_Vw_namingAt_29 rfl (lv_at hl 1 rfl) ?_
        refine lv_icmp_ne (tgt := 49) hx hb d_Vw_namingAt_30 (by decide) (fun c_30 => ?_) (fun c_30 => ?_)
        · have n_30 : ¬ (S.CF (L.getD i 0)) = y := fun z => c_30 ((nI_eq (a := (S.CF (L.getD i 0))) (b := y) (by omega) (by omega)).mpr z)
          have hg : ¬ (ofF S y) (L.getD i 0) = true := fun z => n_30 (ofF_iff.mp z)
          rw [show nI (ftN (ofF S y) L i) = nI (ftN (ofF S y) L (i + 1)) from congrArg nI (ftN_no n_11 hg)] at hl
          refine lv_iinc (v := nI (i + 1)) (lv' := [(4, .int (nI (i + 1))), (0, .ref h), (1, .int (nI y)), (2, .int jj), (3, .int (nI (ftN (ofF S y) L (i + 1))))]) hx hb d_Vw_namingAt_49 hl (k := 4) rfl (by exact nI_add _ _) (by decide) rfl (fun ls hl => ?_)
          refine lv_goto (tgt := 5) hx hb d_Vw_namingAt_52 (by decide) ?_
          exact ih_5 (i + 1) _ _ _ (by omega) (by omega) (fun q z => hq q (by rw [← ftN_no n_11 hg] at z; exact z)) hP hD hS (lv_sub hl [1, 2, 3, 4, 0] rfl)
        · have n_30 : (S.CF (L.getD i 0)) = y := (nI_eq (a := (S.CF (L.getD i 0))) (b := y) (by omega) (by omega)).mp c_30
          have hg : (ofF S y) (L.getD i 0) = true := ofF_iff.mpr n_30
          refine lv_iload_n hx hb d_Vw_namingAt_33 rfl (lv_at hl 3 rfl) ?_
          refine lv_iload_n hx hb d_Vw_namingAt_34 rfl (lv_at hl 2 rfl) ?_
          refine lv_icmp_ne (tgt := 46) hx hb d_Vw_namingAt_35 (by decide) (fun c_35 => ?_) (fun c_35 => ?_)
          · refine lv_iinc (v := nI ((ftN (ofF S y) L i) + 1)) (lv' := [(3, .int (nI ((ftN (ofF S y) L i) + 1))), (0, .ref h), (1, .int (nI y)), (2, .int jj), (4, .int (nI i))]) hx hb d_Vw_namingAt_46 hl (k := 3) rfl (by exact nI_add _ _) (by decide) rfl (fun ls hl => ?_)
            rw [show nI ((ftN (ofF S y) L i) + 1) = nI (ftN (ofF S y) L (i + 1)) from congrArg nI (ftN_yes n_11 hg)] at hl
            refine lv_iinc (v := nI (i + 1)) (lv' := [(4, .int (nI (i + 1))), (3, .int (nI (ftN (ofF S y) L (i + 1)))), (0, .ref h), (1, .int (nI y)), (2, .int jj)]) hx hb d_Vw_namingAt_49 hl (k := 4) rfl (by exact nI_add _ _) (by decide) rfl (fun ls hl => ?_)
            refine lv_goto (tgt := 5) hx hb d_Vw_namingAt_52 (by decide) ?_
            exact ih_5 (i + 1) _ _ _ (by omega) (by omega) (fun q z => if e9 : q = ftN (ofF S y) L i then e9 ▸ (fun z9 => c_35 z9.symm) else hq q (by rw [← ftN_yes n_11 hg] at z; omega)) hP hD hS (lv_sub hl [2, 3, 4, 1, 0] rfl)
          · refine lv_aload_n hx hb d_Vw_namingAt_38 rfl (lv_at hl 0 rfl) ?_
            refine va_get (D := (dC, dI)) (ci := 11) (v := .ref vnA) (C := R_Vw) (T := F_Vw) (N := 14) hx hb hts i_Vw hown hK hP 0 rfl rfl 2 (by decide) (hts _ gw_324) (fun _ h9 => h9) rfl d_Vw_namingAt_39 ?_
            refine lv_iload hx hb d_Vw_namingAt_42 (lv_at hl 4 rfl) ?_
            refine va_iald hx hb hK hP 3 0 rfl rfl (vp_in_nI (by omega) (by omega)) d_Vw_namingAt_44 ?_
            rw [show (nI i).toNatClampNeg = i from nI_clamp (by omega)]
            refine lv_topi (fun x_3 ex_3 => ?_)
            obtain rfl : x_3 = nI (L.getD i 0) := by rw [ex_3]; first | done | (exact hAA i n_11)
            rw [← hQe]
            exact W.iret (v := nI (L.getD i 0)) hx hb hr (fun t ht hW => ⟨⟨_, (), rfl, Or.inl ⟨ftN (ofF S y) L i, (ftk_at n_11 hg).1, c_35.symm, by rw [(ftk_at n_11 hg).2]⟩, by rw [ht]; exact hP, va_K.moved hW.alike hK, hD⟩, hS.F ht⟩) hS.2.2 d_Vw_namingAt_45
  exact loop_5 _ 0 _ _ _ (Nat.lt_succ_self _) (Nat.zero_le _) (fun q z => absurd z (Nat.not_lt_zero _)) hP hD hS (lv_sub hl [2, 3, 4, 1, 0] rfl)
set_option maxHeartbeats 4000000 in
set_option maxRecDepth 100000 in
/-- the files with more than one naming -/
theorem m_Vw_countMany (l : Launch) (dC : Nat → ClassId) (dI : Nat → Nat → Nat) (cI cB cL cZ cR : ClassId) (h vfA voA : Nat) (vw_namings vw_namingTotal vw_stock vw_changes vw_loaded vw_version vw_over vw_round vw_heads vw_nexts vw_sharing : Value) (S : Stk) (vf vo : Nat → Int32) (FL NM : List Nat) (sz : Nat) (hA1 : arrL vf FL) (hA3 : ∀ y, y < 200 → vo y = nI (nOf S y NM)) (hFl : ∀ y, y ∈ FL → y < 200) (hF2 : FL.length ≤ 200) (hN2 : NM.length ≤ 16800) : Met l y_Vw_countManyNamed ws_Vw_countManyNamed ({ frames := 0, cells := 0, slots := 0, locals := 0 }) (xw_Pc dC dI [(cI, .int), (cB, .byte), (cL, .long), (cZ, .boolean), (cR, .object "PatchStore$Repository")] [.ref h] [(h, .inr (11, [.ref vfA, .ref voA, vw_namings, .int (nI FL.length), vw_namingTotal, vw_stock, vw_changes, vw_loaded, vw_version, vw_over, vw_round, vw_heads, vw_nexts, vw_sharing])), (vfA, .inl (cI, 200, .inl vf)), (voA, .inl (cI, 200, .inl vo))] sz) (va_Qi (fun (r : Int32) (_ : Unit) => r = nI (FL.filter (manyN S NM)).length) (fun _ t => xw_B dC dI [(cI, .int), (cB, .byte), (cL, .long), (cZ, .boolean), (cR, .object "PatchStore$Repository")] (va_A [(h, .inr (11, [.ref vfA, .ref voA, vw_namings, .int (nI FL.length), vw_namingTotal, vw_stock, vw_changes, vw_loaded, vw_version, vw_over, vw_round, vw_heads, vw_nexts, vw_sharing])), (vfA, .inl (cI, 200, .inl vf)), (voA, .inl (cI, 200, .inl vo))] sz) [(h, .inr (11, [.ref vfA, .ref voA, vw_namings, .int (nI FL.length), vw_namingTotal, vw_stock, vw_changes, vw_loaded, vw_version, vw_over, vw_round, vw_heads, vw_nexts, vw_sharing])), (vfA, .inl (cI, 200, .inl vf)), (voA, .inl (cI, 200, .inl vo))] t) (va_A [(h, .inr (11, [.ref vfA, .ref voA, vw_namings, .int (nI FL.length), vw_namingTotal, vw_stock, vw_changes, vw_loaded, vw_version, vw_over, vw_round, vw_heads, vw_nexts, vw_sharing])), (vfA, .inl (cI, 200, .inl vf)), (voA, .inl (cI, 200, .inl vo))] sz)) 0 0 (va_A [(h, .inr (11, [.ref vfA, .ref voA, vw_namings, .int (nI FL.length), vw_namingTotal, vw_stock, vw_changes, vw_loaded, vw_version, vw_over, vw_round, vw_heads, vw_nexts, vw_sharing])), (vfA, .inl (cI, 200, .inl vf)), (voA, .inl (cI, 200, .inl vo))] sz) := by
  refine Met.ofW (cc := prog_12_method_7_code) (maxL := 3) (ret := (Option.some Jvm.ClassFile.FieldType.int)) (by decide) rfl ?_
  intro p e s m args below meth c s₁ B hml hv
  obtain ⟨rfl, hsz, hP, hK, hD0⟩ := hv
  have hx := B.exec
  have hb := B.bytes
  have hr := B.returns
  have hts0 := atoms_spec (ws := ws_Vw_countManyNamed) B.pre
  have hts : ∀ w ∈ xg_1, w.before _ s = true := fun w h => hts0 w (List.mem_cons_of_mem _ h)
  have hown : s.vm.findClass "PatchStore$View" = some m.cls := findClass_of_methodNamed B.named
  have hlocks := B.notSynchronized
  subst hsz
  have hD := hD0.self (sz := s.heap.size)
  generalize hAe : va_A [(h, .inr (11, [.ref vfA, .ref voA, vw_namings, .int (nI FL.length), vw_namingTotal, vw_stock, vw_changes, vw_loaded, vw_version, vw_over, vw_round, vw_heads, vw_nexts, vw_sharing])), (vfA, .inl (cI, 200, .inl vf)), (voA, .inl (cI, 200, .inl vo))] s.heap.size = A at hD ⊢
  have hA : ∀ q : Nat, s.heap.size ≤ q → A q := fun q h => by rw [← hAe]; exact Or.inr h
  have hS : va_S A s.heap s.heap [] := va_S.rf
  have hl := lv_entry ([.ref h]) (n := 3) (Nat.le_of_ble_eq_true rfl)
  rw [lg_entry_eq]
  generalize (lg_sl ([.ref h]) ++ List.replicate (3 - (lg_sl ([.ref h])).length) Slot.unset).toArray = ls at hl ⊢
  have hl : lv_has ls 3 [(0, .ref h)] := hl
  generalize hQe : MQ _ _ _ _ _ _ _ = Q
  refine lv_iconst (v := 0) hx hb d_Vw_countManyNamed_0 (by decide) ?_
  refine lv_istore_n (lv' := [(1, .int 0), (0, .ref h)]) hx hb d_Vw_countManyNamed_1 rfl hl (by decide) rfl (fun ls hl => ?_)
  refine lv_iconst (v := 0) hx hb d_Vw_countManyNamed_2 (by decide) ?_
  refine lv_istore_n (lv' := [(2, .int 0), (1, .int 0), (0, .ref h)]) hx hb d_Vw_countManyNamed_3 rfl hl (by decide) rfl (fun ls hl => ?_)
  have loop_4 : ∀ (n9 : Nat) (i : Nat) (H : Heap) (locs : List Loc) (ls : Array Slot), FL.length - i < n9 → (i ≤ FL.length) → va_P (dC, dI) classes [(h, .inr (11, [.ref vfA, .ref voA, vw_namings, .int (nI FL.length), vw_namingTotal, vw_stock, vw_changes, vw_loaded, vw_version, vw_over, vw_round, vw_heads, vw_nexts, vw_sharing])), (vfA, .inl (cI, 200, .inl vf)), (voA, .inl (cI, 200, .inl vo))] H → va_D A [(h, .inr (11, [.ref vfA, .ref voA, vw_namings, .int (nI FL.length), vw_namingTotal, vw_stock, vw_changes, vw_loaded, vw_version, vw_over, vw_round, vw_heads, vw_nexts, vw_sharing])), (vfA, .inl (cI, 200, .inl vf)), (voA, .inl (cI, 200, .inl vo))] → va_S A s.heap H locs → lv_has ls 3 [(0, .ref h), (1, .int (nI (ftN (manyN S NM) FL i))), (2, .int (nI i))] → W p l e (headSpec ws_Vw_countManyNamed ({ frames := 0, cells := 0, slots := 0, locals := 0 })).room s m ([.ref h] : List Value).toArray below meth c H locs 0 0 Q (F0 m 4 ls []) := by
    intro n9
    induction n9 with
    | zero => intro i H locs ls hm; exact absurd hm (Nat.not_lt_zero _)
    | succ n9 ih_4 =>
      intro i H locs ls hm hi hP hD hS hl
      have hfk : ftN (manyN S NM) FL i ≤ i := ftk_le _ _ _
      refine lv_iload_n hx hb d_Vw_countManyNamed_4 rfl (lv_at hl 2 rfl) ?_
      refine lv_aload_n hx hb d_Vw_countManyNamed_5 rfl (lv_at hl 0 rfl) ?_
      refine va_get (D := (dC, dI)) (ci := 11) (v := .int (nI FL.length)) (C := R_Vw) (T := F_Vw) (N := 14) hx hb hts i_Vw hown hK hP 0 rfl rfl 3 (by decide) (hts _ gw_326) (fun _ h9 => h9) rfl d_Vw_countManyNamed_6 ?_
      refine lv_icmp_ge (tgt := 36) hx hb d_Vw_countManyNamed_9 (by decide) (fun c_9 => ?_) (fun c_9 => ?_)
      · have n_9 : FL.length ≤ i := (nI_leI (a := FL.length) (b := i) (by omega) (by omega)).mp c_9
        refine lv_iload_n hx hb d_Vw_countManyNamed_36 rfl (lv_at hl 1 rfl) ?_
        rw [← hQe]
        exact W.iret (v := nI (ftN (manyN S NM) FL i)) hx hb hr (fun t ht hW => ⟨⟨_, (), rfl, by rw [show i = FL.length by omega, ftN_all], by rw [ht]; exact hP, va_K.moved hW.alike hK, hD⟩, hS.F ht⟩) hS.2.2 d_Vw_countManyNamed_37
      · have n_9 : i < FL.length := Nat.lt_of_not_le (fun z => c_9 ((nI_leI (a := FL.length) (b := i) (by omega) (by omega)).mpr z))
        have hy2 := hFl _ (getD_mem n_9)
        have hno := nOf_le S (FL.getD i 0) NM
        refine lv_aload_n hx hb d_Vw_countManyNamed_12 rfl (lv_at hl 0 rfl) ?_
        refine va_get (D := (dC, dI)) (ci := 11) (v := .ref voA) (C := R_Vw) (T := F_Vw) (N := 14) hx hb hts i_Vw hown hK hP 0 rfl rfl 1 (by decide) (hts _ gw_321) (fun _ h9 => h9) rfl d_Vw_countManyNamed_13 ?_
        refine lv_aload_n hx hb d_Vw_countManyNamed_16 rfl (lv_at hl 0 rfl) ?_
        refine va_get (D := (dC, dI)) (ci := 11) (v := .ref vfA) (C := R_Vw) (T := F_Vw) (N := 14) hx hb hts i_Vw hown hK hP 0 rfl rfl 0 (by decide) (hts _ gw_319) (fun _ h9 => h9) rfl d_Vw_countManyNamed_17 ?_
        refine lv_iload_n hx hb d_Vw_countManyNamed_20 rfl (lv_at hl 2 rfl) ?_
        refine va_iald hx hb hK hP 1 0 rfl rfl (vp_in_nI (by omega) (by omega)) d_Vw_countManyNamed_21 ?_
        rw [show (nI i).toNatClampNeg = i from nI_clamp (by omega)]
        refine lv_topi (fun x_1 ex_1 => ?_)
        obtain rfl : x_1 = nI (FL.getD i 0) := by rw [ex_1]; first | done | (exact hA1 i n_9)
        refine va_iald hx hb hK hP 2 0 rfl rfl (vp_in_nI (by omega) (by omega)) d_Vw_countManyNamed_22 ?_
        rw [show (nI (FL.getD i 0)).toNatClampNeg = (FL.getD i 0) from nI_clamp (by omega)]
        refine lv_topi (fun x_2 ex_2 => ?_)
        obtain rfl : x_2 = nI (nOf S (FL.getD i 0) NM) := by rw [ex_2]; first | done | (exact hA3 _ (hFl _ (getD_mem n_9)))
        refine lv_iconst (v := 1) hx hb d_Vw_countManyNamed_23 (by decide) ?_
        refine lv_icmp_le (tgt := 30) hx hb d_Vw_countManyNamed_24 (by decide) (fun c_24 => ?_) (fun c_24 => ?_)
        · have n_24 : (nOf S (FL.getD i 0) NM) ≤ 1 := (nI_leI (a := (nOf S (FL.getD i 0) NM)) (b := 1) (by omega) (by omega)).mp c_24
          have hgy : ¬ (manyN S NM) (FL.getD i 0) = true := fun z => absurd (manyN_iff.mp z) (by omega)
          rw [show nI (ftN (manyN S NM) FL i) = nI (ftN (manyN S NM) FL (i + 1)) from congrArg nI (ftN_no n_9 hgy)] at hl
          refine lv_iinc (v := nI (i + 1)) (lv' := [(2, .int (nI (i + 1))), (0, .ref h), (1, .int (nI (ftN (manyN S NM) FL (i + 1))))]) hx hb d_Vw_countManyNamed_30 hl (k := 2) rfl (by exact nI_add _ _) (by decide) rfl (fun ls hl => ?_)
          refine lv_goto (tgt := 4) hx hb d_Vw_countManyNamed_33 (by decide) ?_
          exact ih_4 (i + 1) _ _ _ (by omega) (by omega) hP hD hS (lv_sub hl [1, 2, 0] rfl)
        · have n_24 : 1 < (nOf S (FL.getD i 0) NM) := Nat.lt_of_not_le (fun z => c_24 ((nI_leI (a := (nOf S (FL.getD i 0) NM)) (b := 1) (by omega) (by omega)).mpr z))
          have hgy : (manyN S NM) (FL.getD i 0) = true := manyN_iff.mpr n_24
          refine lv_iinc (v := nI ((ftN (manyN S NM) FL i) + 1)) (lv' := [(1, .int (nI ((ftN (manyN S NM) FL i) + 1))), (0, .ref h), (2, .int (nI i))]) hx hb d_Vw_countManyNamed_27 hl (k := 1) rfl (by exact nI_add _ _) (by decide) rfl (fun ls hl => ?_)
          rw [show nI ((ftN (manyN S NM) FL i) + 1) = nI (ftN (manyN S NM) FL (i + 1)) from congrArg nI (ftN_yes n_9 hgy)] at hl
          refine lv_iinc (v := nI (i + 1)) (lv' := [(2, .int (nI (i + 1))), (1, .int (nI (ftN (manyN S NM) FL (i + 1)))), (0, .ref h)]) hx hb d_Vw_countManyNamed_30 hl (k := 2) rfl (by exact nI_add _ _) (by decide) rfl (fun ls hl => ?_)
          refine lv_goto (tgt := 4) hx hb d_Vw_countManyNamed_33 (by decide) ?_
          exact ih_4 (i + 1) _ _ _ (by omega) (by omega) hP hD hS (lv_sub hl [2, 1, 0] rfl)
  exact loop_4 _ 0 _ _ _ (Nat.lt_succ_self _) (Nat.zero_le _) hP hD hS (lv_sub hl [2, 1, 0] rfl)
