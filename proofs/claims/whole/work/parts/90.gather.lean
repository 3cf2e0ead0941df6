section
/-! 90.gather.lean.txt -/
theorem gw_100 : (Jvm.Cond.fieldLink "PatchStore$View" (111 : Nat) "PatchStore$Changes" "file" "[I") ∈ xg_1 := xg_s1 100 rfl rfl
theorem gw_1011 : (Jvm.Cond.methodLink "PatchStore$View" (114 : Nat) ({ cls := "PatchStore$Stock", name := "isNaming", desc := "(I)Z" } : Jvm.MethodName)) ∈ xg_1 := xg_s5 51 rfl rfl
def y_Vw_gather : MethodName := ⟨"PatchStore$View", "gather", "(I)V"⟩
abbrev c_Vw_gather : Cond := (Jvm.Cond.code ({ cls := "PatchStore$View", name := "gather", desc := "(I)V" } : Jvm.MethodName) prog_12_method_4_code (3 : Nat) (Option.none : Option Jvm.ClassFile.FieldType))
abbrev ws_Vw_gather : List Cond := c_Vw_gather :: xg_1
theorem d_Vw_gather_0 : decode prog_12_method_4_code 0 = .ok (.aload_n 0, 1) := by decide +kernel
theorem d_Vw_gather_1 : decode prog_12_method_4_code 1 = .ok (.getfield 34, 3) := by decide +kernel
theorem d_Vw_gather_4 : decode prog_12_method_4_code 4 = .ok (.getfield 91, 3) := by decide +kernel
theorem d_Vw_gather_7 : decode prog_12_method_4_code 7 = .ok (.iload_n 1, 1) := by decide +kernel
theorem d_Vw_gather_8 : decode prog_12_method_4_code 8 = .ok (.iaload, 1) := by decide +kernel
theorem d_Vw_gather_9 : decode prog_12_method_4_code 9 = .ok (.istore_n 2, 1) := by decide +kernel
theorem d_Vw_gather_10 : decode prog_12_method_4_code 10 = .ok (.iload_n 2, 1) := by decide +kernel
theorem d_Vw_gather_11 : decode prog_12_method_4_code 11 = .ok (.aload_n 0, 1) := by decide +kernel
theorem d_Vw_gather_12 : decode prog_12_method_4_code 12 = .ok (.getfield 34, 3) := by decide +kernel
theorem d_Vw_gather_15 : decode prog_12_method_4_code 15 = .ok (.getfield 91, 3) := by decide +kernel
theorem d_Vw_gather_18 : decode prog_12_method_4_code 18 = .ok (.iload_n 1, 1) := by decide +kernel
theorem d_Vw_gather_19 : decode prog_12_method_4_code 19 = .ok (.iconst 1, 1) := by decide +kernel
theorem d_Vw_gather_20 : decode prog_12_method_4_code 20 = .ok (.iadd, 1) := by decide +kernel
theorem d_Vw_gather_21 : decode prog_12_method_4_code 21 = .ok (.iaload, 1) := by decide +kernel
theorem d_Vw_gather_22 : decode prog_12_method_4_code 22 = .ok (.if_icmp .ge 130, 3) := by decide +kernel
theorem d_Vw_gather_25 : decode prog_12_method_4_code 25 = .ok (.aload_n 0, 1) := by decide +kernel
theorem d_Vw_gather_26 : decode prog_12_method_4_code 26 = .ok (.getfield 34, 3) := by decide +kernel
theorem d_Vw_gather_29 : decode prog_12_method_4_code 29 = .ok (.iload_n 2, 1) := by decide +kernel
theorem d_Vw_gather_30 : decode prog_12_method_4_code 30 = .ok (.invokevirtual 99, 3) := by decide +kernel
theorem d_Vw_gather_33 : decode prog_12_method_4_code 33 = .ok (.ifCond .ne 41, 3) := by decide +kernel
theorem d_Vw_gather_36 : decode prog_12_method_4_code 36 = .ok (.aload_n 0, 1) := by decide +kernel
theorem d_Vw_gather_37 : decode prog_12_method_4_code 37 = .ok (.getfield 79, 3) := by decide +kernel
theorem d_Vw_gather_40 : decode prog_12_method_4_code 40 = .ok (.sipush 200, 3) := by decide +kernel
theorem d_Vw_gather_43 : decode prog_12_method_4_code 43 = .ok (.if_icmp .ge 31, 3) := by decide +kernel
theorem d_Vw_gather_46 : decode prog_12_method_4_code 46 = .ok (.aload_n 0, 1) := by decide +kernel
theorem d_Vw_gather_47 : decode prog_12_method_4_code 47 = .ok (.getfield 9, 3) := by decide +kernel
theorem d_Vw_gather_50 : decode prog_12_method_4_code 50 = .ok (.aload_n 0, 1) := by decide +kernel
theorem d_Vw_gather_51 : decode prog_12_method_4_code 51 = .ok (.getfield 79, 3) := by decide +kernel
theorem d_Vw_gather_54 : decode prog_12_method_4_code 54 = .ok (.aload_n 0, 1) := by decide +kernel
theorem d_Vw_gather_55 : decode prog_12_method_4_code 55 = .ok (.getfield 44, 3) := by decide +kernel
theorem d_Vw_gather_58 : decode prog_12_method_4_code 58 = .ok (.getfield 111, 3) := by decide +kernel
theorem d_Vw_gather_61 : decode prog_12_method_4_code 61 = .ok (.iload_n 2, 1) := by decide +kernel
theorem d_Vw_gather_62 : decode prog_12_method_4_code 62 = .ok (.iaload, 1) := by decide +kernel
theorem d_Vw_gather_63 : decode prog_12_method_4_code 63 = .ok (.iastore, 1) := by decide +kernel
theorem d_Vw_gather_64 : decode prog_12_method_4_code 64 = .ok (.aload_n 0, 1) := by decide +kernel
theorem d_Vw_gather_65 : decode prog_12_method_4_code 65 = .ok (.dup, 1) := by decide +kernel
theorem d_Vw_gather_66 : decode prog_12_method_4_code 66 = .ok (.getfield 79, 3) := by decide +kernel
theorem d_Vw_gather_69 : decode prog_12_method_4_code 69 = .ok (.iconst 1, 1) := by decide +kernel
theorem d_Vw_gather_70 : decode prog_12_method_4_code 70 = .ok (.iadd, 1) := by decide +kernel
theorem d_Vw_gather_71 : decode prog_12_method_4_code 71 = .ok (.putfield 79, 3) := by decide +kernel
theorem d_Vw_gather_74 : decode prog_12_method_4_code 74 = .ok (.aload_n 0, 1) := by decide +kernel
theorem d_Vw_gather_75 : decode prog_12_method_4_code 75 = .ok (.getfield 34, 3) := by decide +kernel
theorem d_Vw_gather_78 : decode prog_12_method_4_code 78 = .ok (.iload_n 2, 1) := by decide +kernel
theorem d_Vw_gather_79 : decode prog_12_method_4_code 79 = .ok (.invokevirtual 114, 3) := by decide +kernel
theorem d_Vw_gather_82 : decode prog_12_method_4_code 82 = .ok (.ifCond .eq 64, 3) := by decide +kernel
theorem d_Vw_gather_85 : decode prog_12_method_4_code 85 = .ok (.aload_n 0, 1) := by decide +kernel
theorem d_Vw_gather_86 : decode prog_12_method_4_code 86 = .ok (.getfield 22, 3) := by decide +kernel
theorem d_Vw_gather_89 : decode prog_12_method_4_code 89 = .ok (.iload_n 2, 1) := by decide +kernel
theorem d_Vw_gather_90 : decode prog_12_method_4_code 90 = .ok (.iaload, 1) := by decide +kernel
theorem d_Vw_gather_91 : decode prog_12_method_4_code 91 = .ok (.aload_n 0, 1) := by decide +kernel
theorem d_Vw_gather_92 : decode prog_12_method_4_code 92 = .ok (.getfield 56, 3) := by decide +kernel
theorem d_Vw_gather_95 : decode prog_12_method_4_code 95 = .ok (.if_icmp .eq 51, 3) := by decide +kernel
theorem d_Vw_gather_98 : decode prog_12_method_4_code 98 = .ok (.aload_n 0, 1) := by decide +kernel
theorem d_Vw_gather_99 : decode prog_12_method_4_code 99 = .ok (.getfield 76, 3) := by decide +kernel
theorem d_Vw_gather_102 : decode prog_12_method_4_code 102 = .ok (.sipush 16800, 3) := by decide +kernel
theorem d_Vw_gather_105 : decode prog_12_method_4_code 105 = .ok (.if_icmp .ge 41, 3) := by decide +kernel
theorem d_Vw_gather_108 : decode prog_12_method_4_code 108 = .ok (.aload_n 0, 1) := by decide +kernel
theorem d_Vw_gather_109 : decode prog_12_method_4_code 109 = .ok (.getfield 18, 3) := by decide +kernel
theorem d_Vw_gather_112 : decode prog_12_method_4_code 112 = .ok (.aload_n 0, 1) := by decide +kernel
theorem d_Vw_gather_113 : decode prog_12_method_4_code 113 = .ok (.getfield 76, 3) := by decide +kernel
theorem d_Vw_gather_116 : decode prog_12_method_4_code 116 = .ok (.iload_n 2, 1) := by decide +kernel
theorem d_Vw_gather_117 : decode prog_12_method_4_code 117 = .ok (.iastore, 1) := by decide +kernel
theorem d_Vw_gather_118 : decode prog_12_method_4_code 118 = .ok (.aload_n 0, 1) := by decide +kernel
theorem d_Vw_gather_119 : decode prog_12_method_4_code 119 = .ok (.dup, 1) := by decide +kernel
theorem d_Vw_gather_120 : decode prog_12_method_4_code 120 = .ok (.getfield 76, 3) := by decide +kernel
theorem d_Vw_gather_123 : decode prog_12_method_4_code 123 = .ok (.iconst 1, 1) := by decide +kernel
theorem d_Vw_gather_124 : decode prog_12_method_4_code 124 = .ok (.iadd, 1) := by decide +kernel
theorem d_Vw_gather_125 : decode prog_12_method_4_code 125 = .ok (.putfield 76, 3) := by decide +kernel
theorem d_Vw_gather_128 : decode prog_12_method_4_code 128 = .ok (.aload_n 0, 1) := by decide +kernel
theorem d_Vw_gather_129 : decode prog_12_method_4_code 129 = .ok (.getfield 15, 3) := by decide +kernel
theorem d_Vw_gather_132 : decode prog_12_method_4_code 132 = .ok (.aload_n 0, 1) := by decide +kernel
theorem d_Vw_gather_133 : decode prog_12_method_4_code 133 = .ok (.getfield 44, 3) := by decide +kernel
theorem d_Vw_gather_136 : decode prog_12_method_4_code 136 = .ok (.getfield 111, 3) := by decide +kernel
theorem d_Vw_gather_139 : decode prog_12_method_4_code 139 = .ok (.iload_n 2, 1) := by decide +kernel
theorem d_Vw_gather_140 : decode prog_12_method_4_code 140 = .ok (.iaload, 1) := by decide +kernel
theorem d_Vw_gather_141 : decode prog_12_method_4_code 141 = .ok (.dup2, 1) := by decide +kernel
theorem d_Vw_gather_142 : decode prog_12_method_4_code 142 = .ok (.iaload, 1) := by decide +kernel
theorem d_Vw_gather_143 : decode prog_12_method_4_code 143 = .ok (.iconst 1, 1) := by decide +kernel
theorem d_Vw_gather_144 : decode prog_12_method_4_code 144 = .ok (.iadd, 1) := by decide +kernel
theorem d_Vw_gather_145 : decode prog_12_method_4_code 145 = .ok (.iastore, 1) := by decide +kernel
theorem d_Vw_gather_146 : decode prog_12_method_4_code 146 = .ok (.iinc 2 1, 3) := by decide +kernel
theorem d_Vw_gather_149 : decode prog_12_method_4_code 149 = .ok (.goto (-139), 3) := by decide +kernel
theorem d_Vw_gather_152 : decode prog_12_method_4_code 152 = .ok (.return_, 1) := by decide +kernel
/-- the set has a call over the naming x -/
noncomputable def ovB (S : Stk) (mw : Nat → Int64) (x : Nat) : Bool := @decide (ovS S mw S.P x) (Classical.propDecidable _)
theorem ovB_iff {S : Stk} {mw : Nat → Int64} {x : Nat} : ovB S mw x = true ↔ ovS S mw S.P x := by
  unfold ovB
  exact @decide_eq_true_iff _ (Classical.propDecidable _)
/-- the change is a naming that is there, if its patch is -/
noncomputable def thB (S : Stk) (mw : Nat → Int64) (c : Nat) : Bool := nmB S c && !ovB S mw c
theorem thB_yes {S : Stk} {mw : Nat → Int64} {c : Nat} (h1 : isNm S.f (S.CA c)) (h2 : ¬ ovS S mw S.P c) : thB S mw c = true := by
  unfold thB
  rw [nmB_iff.mpr h1, Bool.eq_false_iff.mpr (fun z => h2 (ovB_iff.mp z))]
  rfl
theorem thB_no1 {S : Stk} {mw : Nat → Int64} {c : Nat} (h1 : ¬ isNm S.f (S.CA c)) : thB S mw c = false := by
  unfold thB
  rw [Bool.eq_false_iff.mpr (fun z => h1 (nmB_iff.mp z))]
  rfl
theorem thB_no2 {S : Stk} {mw : Nat → Int64} {c : Nat} (h2 : ovS S mw S.P c) : thB S mw c = false := by
  unfold thB
  rw [ovB_iff.mpr h2]
  simp
theorem thB_nm {S : Stk} {mw : Nat → Int64} {c : Nat} (h : thB S mw c = true) : nmB S c = true := by
  unfold thB at h
  exact (Bool.and_eq_true_iff.mp h).1
/-- the files, with those that the first j changes of patch p add -/
def flj (S : Stk) (FL : List Nat) (p j : Nat) : List Nat := FL ++ ((seqL (S.FC p) j).filter (adB S)).map S.CF
/-- the namings, with those of the first j changes of patch p -/
noncomputable def nmj (S : Stk) (mw : Nat → Int64) (NM : List Nat) (p j : Nat) : List Nat := NM ++ (seqL (S.FC p) j).filter (thB S mw)
def flN (S : Stk) (FL : List Nat) (p j : Nat) : Nat := (flj S FL p j).length
noncomputable def nmN (S : Stk) (mw : Nat → Int64) (NM : List Nat) (p j : Nat) : Nat := (nmj S mw NM p j).length
/-- how many of the namings are of file y -/
def nOf (S : Stk) (y : Nat) (L : List Nat) : Nat := numL (fun c => S.CF c == y) L
theorem flj_0 (S : Stk) (FL : List Nat) (p : Nat) : flj S FL p 0 = FL := List.append_nil _
theorem nmj_0 (S : Stk) (mw : Nat → Int64) (NM : List Nat) (p : Nat) : nmj S mw NM p 0 = NM := List.append_nil _
theorem flj_yes {S : Stk} {FL : List Nat} {p j : Nat} (h : S.f (S.CA (S.FC p + j)) = 0) : flj S FL p (j + 1) = flj S FL p j ++ [S.CF (S.FC p + j)] := by
  unfold flj
  show FL ++ ((seqL (S.FC p) j ++ [S.FC p + j]).filter (adB S)).map S.CF = _
  rw [List.filter_append, List.map_append, List.append_assoc]
  congr 2
  simp [adB_iff.mpr h]
theorem flj_no {S : Stk} {FL : List Nat} {p j : Nat} (h : ¬ S.f (S.CA (S.FC p + j)) = 0) : flj S FL p (j + 1) = flj S FL p j := by
  unfold flj
  show FL ++ ((seqL (S.FC p) j ++ [S.FC p + j]).filter (adB S)).map S.CF = _
  have : adB S (S.FC p + j) = false := Bool.eq_false_iff.mpr (fun z => h (adB_iff.mp z))
  rw [List.filter_append, List.map_append]
  simp [this]
theorem nmj_yes {S : Stk} {mw : Nat → Int64} {NM : List Nat} {p j : Nat} (h : thB S mw (S.FC p + j) = true) : nmj S mw NM p (j + 1) = nmj S mw NM p j ++ [S.FC p + j] := by
  unfold nmj
  show NM ++ ((seqL (S.FC p) j ++ [S.FC p + j]).filter (thB S mw)) = _
  rw [List.filter_append, List.append_assoc]
  congr 2
  simp [h]
theorem nmj_no {S : Stk} {mw : Nat → Int64} {NM : List Nat} {p j : Nat} (h : thB S mw (S.FC p + j) = false) : nmj S mw NM p (j + 1) = nmj S mw NM p j := by
  unfold nmj
  show NM ++ ((seqL (S.FC p) j ++ [S.FC p + j]).filter (thB S mw)) = _
  rw [List.filter_append]
  simp [h]
theorem flN_eq (S : Stk) (FL : List Nat) (p j : Nat) : flN S FL p j = FL.length + numL (adB S) (seqL (S.FC p) j) := by
  unfold flN flj numL
  rw [List.length_append, List.length_map]
theorem nmN_le (S : Stk) (mw : Nat → Int64) (NM : List Nat) (p j : Nat) : nmN S mw NM p j ≤ NM.length + numL (nmB S) (seqL (S.FC p) j) := by
  unfold nmN nmj
  rw [List.length_append]
  have : ∀ L : List Nat, (L.filter (thB S mw)).length ≤ numL (nmB S) L := by
    intro L
    unfold numL
    induction L with
    | nil => exact Nat.le_refl _
    | cons x L ih =>
      cases h : thB S mw x with
      | true =>
        rw [List.filter_cons_of_pos h, List.filter_cons_of_pos (thB_nm h)]
        simp only [List.length_cons]
        omega
      | false =>
        rw [List.filter_cons_of_neg (by simp [h])]
        by_cases z : nmB S x = true
        · rw [List.filter_cons_of_pos z]
          simp only [List.length_cons]
          omega
        · rw [List.filter_cons_of_neg z]
          exact ih
  have := this (seqL (S.FC p) j)
  omega
theorem nOf_app (S : Stk) (y x : Nat) (L : List Nat) : nOf S y (L ++ [x]) = nOf S y L + (if y = S.CF x then 1 else 0) := by
  unfold nOf
  rw [numL_app, numL_one]
  congr 1
  by_cases e : y = S.CF x
  · rw [if_pos e, if_pos (by simp [e])]
  · rw [if_neg e, if_neg (by simp; exact fun z => e z.symm)]
theorem nOf_up {S : Stk} {vo : Nat → Int32} {L : List Nat} {x : Nat} (h : ∀ y, y < 200 → vo y = nI (nOf S y L)) : ∀ y, y < 200 → upd vo (S.CF x) (nI (nOf S (S.CF x) L + 1)) y = nI (nOf S y (L ++ [x])) := by
  intro y hy
  rw [nOf_app]
  by_cases e : y = S.CF x
  · subst e; rw [upd_eq, if_pos rfl]
  · rw [upd_ne _ e, if_neg e, h y hy]; rfl
theorem nOf_le (S : Stk) (y : Nat) (L : List Nat) : nOf S y L ≤ L.length := List.length_filter_le _ _
set_option maxHeartbeats 4000000 in
set_option maxRecDepth 100000 in
/-- the files and namings of a patch -/
theorem m_Vw_gather (l : Launch) (dC : Nat → ClassId) (dI : Nat → Nat → Nat) (cI cB cL cZ cR : ClassId) (h sk b_y fcA ch cat cfA ovA vfA voA vnA : Nat) (vw_loaded vw_version vw_heads vw_nexts vw_sharing sk_from sk_firstDependency sk_dependencies sk_hashes sk_byHash sk_leansOn sk_leantBy sk_lines sk_patches ch_patch ch_firstLine ch_adds ch_files : Value) (Z : StkA) (S : Stk) (mw : Nat → Int64) (ov vf vo vn : Nat → Int32) (FL NM : List Nat) (rd pp : Nat) (sz : Nat) (I : sInv S) (R : rep S Z) (hp9 : pp < S.P) (hov : ∀ x, x < S.FC S.P → (ov x = nI rd ↔ ovS S mw S.P x)) (hA1 : arrL vf FL) (hA2 : arrL vn NM) (hA3 : ∀ y, y < 200 → vo y = nI (nOf S y NM)) (hfit : ∀ j, j ≤ S.nT pp → FL.length + numL (adB S) (seqL (S.FC pp) j) ≤ 200 ∧ NM.length + numL (nmB S) (seqL (S.FC pp) j) ≤ 16750) : Met l y_Vw_gather ws_Vw_gather ({ frames := 2, cells := 0, slots := 0, locals := 120 }) (xw_Pc dC dI [(cI, .int), (cB, .byte), (cL, .long), (cZ, .boolean), (cR, .object "PatchStore$Repository")] [.ref h, .int (nI pp)] [(h, .inr (11, [.ref vfA, .ref voA, .ref vnA, .int (nI FL.length), .int (nI NM.length), .ref sk, .ref ch, vw_loaded, vw_version, .ref ovA, .int (nI rd), vw_heads, vw_nexts, vw_sharing])), (sk, .inr (9, [.ref b_y, sk_from, sk_firstDependency, .ref fcA, sk_dependencies, sk_hashes, sk_byHash, sk_leansOn, sk_leantBy, .ref ch, sk_lines, sk_patches])), (b_y, .inl (cB, 290000, .inl S.f)), (fcA, .inl (cI, 502, .inl Z.fc)), (ch, .inr (1, [.ref cat, ch_patch, .ref cfA, ch_firstLine, ch_adds, ch_files])), (cat, .inl (cI, 38000, .inl Z.ca)), (cfA, .inl (cI, 38000, .inl Z.cf)), (ovA, .inl (cI, 38000, .inl ov)), (vfA, .inl (cI, 200, .inl vf)), (voA, .inl (cI, 200, .inl vo)), (vnA, .inl (cI, 16800, .inl vn))] sz) (va_Qv (fun u : (Nat → Int32) × (Nat → Int32) × (Nat → Int32) => arrL u.1 (flj S FL pp (S.nT pp)) ∧ (∀ y, y < 200 → u.2.1 y = nI (nOf S y (nmj S mw NM pp (S.nT pp)))) ∧ arrL u.2.2 (nmj S mw NM pp (S.nT pp))) (fun u t => xw_B dC dI [(cI, .int), (cB, .byte), (cL, .long), (cZ, .boolean), (cR, .object "PatchStore$Repository")] (va_A [(h, .inr (11, [.ref vfA, .ref voA, .ref vnA, .int (nI FL.length), .int (nI NM.length), .ref sk, .ref ch, vw_loaded, vw_version, .ref ovA, .int (nI rd), vw_heads, vw_nexts, vw_sharing])), (sk, .inr (9, [.ref b_y, sk_from, sk_firstDependency, .ref fcA, sk_dependencies, sk_hashes, sk_byHash, sk_leansOn, sk_leantBy, .ref ch, sk_lines, sk_patches])), (b_y, .inl (cB, 290000, .inl S.f)), (fcA, .inl (cI, 502, .inl Z.fc)), (ch, .inr (1, [.ref cat, ch_patch, .ref cfA, ch_firstLine, ch_adds, ch_files])), (cat, .inl (cI, 38000, .inl Z.ca)), (cfA, .inl (cI, 38000, .inl Z.cf)), (ovA, .inl (cI, 38000, .inl ov)), (vfA, .inl (cI, 200, .inl vf)), (voA, .inl (cI, 200, .inl vo)), (vnA, .inl (cI, 16800, .inl vn))] sz) [(h, .inr (11, [.ref vfA, .ref voA, .ref vnA, .int (nI (flN S FL pp (S.nT pp))), .int (nI (nmN S mw NM pp (S.nT pp))), .ref sk, .ref ch, vw_loaded, vw_version, .ref ovA, .int (nI rd), vw_heads, vw_nexts, vw_sharing])), (sk, .inr (9, [.ref b_y, sk_from, sk_firstDependency, .ref fcA, sk_dependencies, sk_hashes, sk_byHash, sk_leansOn, sk_leantBy, .ref ch, sk_lines, sk_patches])), (b_y, .inl (cB, 290000, .inl S.f)), (fcA, .inl (cI, 502, .inl Z.fc)), (ch, .inr (1, [.ref cat, ch_patch, .ref cfA, ch_firstLine, ch_adds, ch_files])), (cat, .inl (cI, 38000, .inl Z.ca)), (cfA, .inl (cI, 38000, .inl Z.cf)), (ovA, .inl (cI, 38000, .inl ov)), (vfA, .inl (cI, 200, .inl u.1)), (voA, .inl (cI, 200, .inl u.2.1)), (vnA, .inl (cI, 16800, .inl u.2.2))] t) (va_A [(h, .inr (11, [.ref vfA, .ref voA, .ref vnA, .int (nI FL.length), .int (nI NM.length), .ref sk, .ref ch, vw_loaded, vw_version, .ref ovA, .int (nI rd), vw_heads, vw_nexts, vw_sharing])), (sk, .inr (9, [.ref b_y, sk_from, sk_firstDependency, .ref fcA, sk_dependencies, sk_hashes, sk_byHash, sk_leansOn, sk_leantBy, .ref ch, sk_lines, sk_patches])), (b_y, .inl (cB, 290000, .inl S.f)), (fcA, .inl (cI, 502, .inl Z.fc)), (ch, .inr (1, [.ref cat, ch_patch, .ref cfA, ch_firstLine, ch_adds, ch_files])), (cat, .inl (cI, 38000, .inl Z.ca)), (cfA, .inl (cI, 38000, .inl Z.cf)), (ovA, .inl (cI, 38000, .inl ov)), (vfA, .inl (cI, 200, .inl vf)), (voA, .inl (cI, 200, .inl vo)), (vnA, .inl (cI, 16800, .inl vn))] sz)) 0 0 (va_A [(h, .inr (11, [.ref vfA, .ref voA, .ref vnA, .int (nI FL.length), .int (nI NM.length), .ref sk, .ref ch, vw_loaded, vw_version, .ref ovA, .int (nI rd), vw_heads, vw_nexts, vw_sharing])), (sk, .inr (9, [.ref b_y, sk_from, sk_firstDependency, .ref fcA, sk_dependencies, sk_hashes, sk_byHash, sk_leansOn, sk_leantBy, .ref ch, sk_lines, sk_patches])), (b_y, .inl (cB, 290000, .inl S.f)), (fcA, .inl (cI, 502, .inl Z.fc)), (ch, .inr (1, [.ref cat, ch_patch, .ref cfA, ch_firstLine, ch_adds, ch_files])), (cat, .inl (cI, 38000, .inl Z.ca)), (cfA, .inl (cI, 38000, .inl Z.cf)), (ovA, .inl (cI, 38000, .inl ov)), (vfA, .inl (cI, 200, .inl vf)), (voA, .inl (cI, 200, .inl vo)), (vnA, .inl (cI, 16800, .inl vn))] sz) := by
  refine Met.ofW (cc := prog_12_method_4_code) (maxL := 3) (ret := none) (by decide) rfl ?_
  intro p e s m args below meth c s₁ B hml hv
  obtain ⟨rfl, hsz, hP, hK, hD0⟩ := hv
  have hx := B.exec
  have hb := B.bytes
  have hr := B.returns
  have hts0 := atoms_spec (ws := ws_Vw_gather) B.pre
  have hts : ∀ w ∈ xg_1, w.before _ s = true := fun w h => hts0 w (List.mem_cons_of_mem _ h)
  have hown : s.vm.findClass "PatchStore$View" = some m.cls := findClass_of_methodNamed B.named
  have hlocks := B.notSynchronized
  subst hsz
  have hD := hD0.self (sz := s.heap.size)
  generalize hAe : va_A [(h, .inr (11, [.ref vfA, .ref voA, .ref vnA, .int (nI FL.length), .int (nI NM.length), .ref sk, .ref ch, vw_loaded, vw_version, .ref ovA, .int (nI rd), vw_heads, vw_nexts, vw_sharing])), (sk, .inr (9, [.ref b_y, sk_from, sk_firstDependency, .ref fcA, sk_dependencies, sk_hashes, sk_byHash, sk_leansOn, sk_leantBy, .ref ch, sk_lines, sk_patches])), (b_y, .inl (cB, 290000, .inl S.f)), (fcA, .inl (cI, 502, .inl Z.fc)), (ch, .inr (1, [.ref cat, ch_patch, .ref cfA, ch_firstLine, ch_adds, ch_files])), (cat, .inl (cI, 38000, .inl Z.ca)), (cfA, .inl (cI, 38000, .inl Z.cf)), (ovA, .inl (cI, 38000, .inl ov)), (vfA, .inl (cI, 200, .inl vf)), (voA, .inl (cI, 200, .inl vo)), (vnA, .inl (cI, 16800, .inl vn))] s.heap.size = A at hD ⊢
  have hA : ∀ q : Nat, s.heap.size ≤ q → A q := fun q h => by rw [← hAe]; exact Or.inr h
  have hS : va_S A s.heap s.heap [] := va_S.rf
  have hl := lv_entry ([.ref h, .int (nI pp)]) (n := 3) (Nat.le_of_ble_eq_true rfl)
  rw [lg_entry_eq]
  generalize (lg_sl ([.ref h, .int (nI pp)]) ++ List.replicate (3 - (lg_sl ([.ref h, .int (nI pp)])).length) Slot.unset).toArray = ls at hl ⊢
  have hl : lv_has ls 3 [(0, .ref h), (1, .int (nI pp))] := hl
  generalize hQe : MQ _ _ _ _ _ _ _ = Q
  obtain ⟨hb1, hb2, hb3, hb4, hb5⟩ := I.bounds hp9
  have hb6 := I.hP
  have hpi := I.pi pp hp9
  refine lv_aload_n hx hb d_Vw_gather_0 rfl (lv_at hl 0 rfl) ?_
  refine va_get (D := (dC, dI)) (ci := 11) (v := .ref sk) (C := R_Vw) (T := F_Vw) (N := 14) hx hb hts i_Vw hown hK hP 0 rfl rfl 5 (by decide) (hts _ gw_330) (fun _ h9 => h9) rfl d_Vw_gather_1 ?_
  refine va_get (D := (dC, dI)) (ci := 9) (v := .ref fcA) (C := R_St) (T := F_St) (N := 12) hx hb hts i_St hown hK hP 1 rfl rfl 3 (by decide) (hts _ gw_197) (fun _ h9 => h9) rfl d_Vw_gather_4 ?_
  refine lv_iload_n hx hb d_Vw_gather_7 rfl (lv_at hl 1 rfl) ?_
  refine va_iald hx hb hK hP 3 0 rfl rfl (vp_in_nI (by omega) (by omega)) d_Vw_gather_8 ?_
  rw [show (nI pp).toNatClampNeg = pp from nI_clamp (by omega)]
  refine lv_topi (fun x_1 ex_1 => ?_)
  obtain rfl : x_1 = nI (S.FC pp) := by rw [ex_1]; first | done | (exact R.fc pp (by omega))
  refine lv_istore_n (lv' := [(2, .int (nI (S.FC pp))), (0, .ref h), (1, .int (nI pp))]) hx hb d_Vw_gather_9 rfl hl (by decide) rfl (fun ls hl => ?_)
  rw [show nI FL.length = nI (flN S FL pp 0) from congrArg nI (by unfold flN; rw [flj_0]), show nI NM.length = nI (nmN S mw NM pp 0) from congrArg nI (by unfold nmN; rw [nmj_0])] at hP hD
  have loop_10 : ∀ (n9 : Nat) (j : Nat) (vfu : Nat → Int32) (vou : Nat → Int32) (vnu : Nat → Int32) (H : Heap) (locs : List Loc) (ls : Array Slot), S.nT pp - j < n9 → (j ≤ S.nT pp) → (arrL vfu (flj S FL pp j)) → (∀ y, y < 200 → vou y = nI (nOf S y (nmj S mw NM pp j))) → (arrL vnu (nmj S mw NM pp j)) → va_P (dC, dI) classes [(h, .inr (11, [.ref vfA, .ref voA, .ref vnA, .int (nI (flN S FL pp j)), .int (nI (nmN S mw NM pp j)), .ref sk, .ref ch, vw_loaded, vw_version, .ref ovA, .int (nI rd), vw_heads, vw_nexts, vw_sharing])), (sk, .inr (9, [.ref b_y, sk_from, sk_firstDependency, .ref fcA, sk_dependencies, sk_hashes, sk_byHash, sk_leansOn, sk_leantBy, .ref ch, sk_lines, sk_patches])), (b_y, .inl (cB, 290000, .inl S.f)), (fcA, .inl (cI, 502, .inl Z.fc)), (ch, .inr (1, [.ref cat, ch_patch, .ref cfA, ch_firstLine, ch_adds, ch_files])), (cat, .inl (cI, 38000, .inl Z.ca)), (cfA, .inl (cI, 38000, .inl Z.cf)), (ovA, .inl (cI, 38000, .inl ov)), (vfA, .inl (cI, 200, .inl vfu)), (voA, .inl (cI, 200, .inl vou)), (vnA, .inl (cI, 16800, .inl vnu))] H → va_D A [(h, .inr (11, [.ref vfA, .ref voA, .ref vnA, .int (nI (flN S FL pp j)), .int (nI (nmN S mw NM pp j)), .ref sk, .ref ch, vw_loaded, vw_version, .ref ovA, .int (nI rd), vw_heads, vw_nexts, vw_sharing])), (sk, .inr (9, [.ref b_y, sk_from, sk_firstDependency, .ref fcA, sk_dependencies, sk_hashes, sk_byHash, sk_leansOn, sk_leantBy, .ref ch, sk_lines, sk_patches])), (b_y, .inl (cB, 290000, .inl S.f)), (fcA, .inl (cI, 502, .inl Z.fc)), (ch, .inr (1, [.ref cat, ch_patch, .ref cfA, ch_firstLine, ch_adds, ch_files])), (cat, .inl (cI, 38000, .inl Z.ca)), (cfA, .inl (cI, 38000, .inl Z.cf)), (ovA, .inl (cI, 38000, .inl ov)), (vfA, .inl (cI, 200, .inl vfu)), (voA, .inl (cI, 200, .inl vou)), (vnA, .inl (cI, 16800, .inl vnu))] → va_S A s.heap H locs → lv_has ls 3 [(0, .ref h), (1, .int (nI pp)), (2, .int (nI (S.FC pp + j)))] → W p l e (headSpec ws_Vw_gather ({ frames := 2, cells := 0, slots := 0, locals := 120 })).room s m ([.ref h, .int (nI pp)] : List Value).toArray below meth c H locs 0 0 Q (F0 m 10 ls []) := by
    intro n9
    induction n9 with
    | zero => intro j vfu vou vnu H locs ls hm; exact absurd hm (Nat.not_lt_zero _)
    | succ n9 ih_10 =>
      intro j vfu vou vnu H locs ls hm hj ha1 ha3 ha2 hP hD hS hl
      have hf1 := hfit j hj
      have hf2 := flN_eq S FL pp j
      have hf3 := nmN_le S mw NM pp j
      refine lv_iload_n hx hb d_Vw_gather_10 rfl (lv_at hl 2 rfl) ?_
      refine lv_aload_n hx hb d_Vw_gather_11 rfl (lv_at hl 0 rfl) ?_
      refine va_get (D := (dC, dI)) (ci := 11) (v := .ref sk) (C := R_Vw) (T := F_Vw) (N := 14) hx hb hts i_Vw hown hK hP 0 rfl rfl 5 (by decide) (hts _ gw_330) (fun _ h9 => h9) rfl d_Vw_gather_12 ?_
      refine va_get (D := (dC, dI)) (ci := 9) (v := .ref fcA) (C := R_St) (T := F_St) (N := 12) hx hb hts i_St hown hK hP 1 rfl rfl 3 (by decide) (hts _ gw_197) (fun _ h9 => h9) rfl d_Vw_gather_15 ?_
      refine lv_iload_n hx hb d_Vw_gather_18 rfl (lv_at hl 1 rfl) ?_
      refine lv_iconst (v := 1) hx hb d_Vw_gather_19 (by decide) ?_
      refine lv_iadd hx hb d_Vw_gather_20 ?_
      refine lv_topi (fun x_2 ex_2 => ?_)
      obtain rfl : x_2 = nI (pp + 1) := by rw [ex_2]; first | done | (exact nI_add _ _)
      refine va_iald hx hb hK hP 3 0 rfl rfl (vp_in_nI (by omega) (by omega)) d_Vw_gather_21 ?_
      rw [show (nI (pp + 1)).toNatClampNeg = (pp + 1) from nI_clamp (by omega)]
      refine lv_topi (fun x_3 ex_3 => ?_)
      obtain rfl : x_3 = nI (S.FC pp + S.nT pp) := by rw [ex_3]; first | done | (rw [R.fc (pp + 1) (by omega), hpi.fc])
      refine lv_icmp_ge (tgt := 152) hx hb d_Vw_gather_22 (by decide) (fun c_22 => ?_) (fun c_22 => ?_)
      · have n_22 : (S.FC pp + S.nT pp) ≤ (S.FC pp + j) := (nI_leI (a := (S.FC pp + S.nT pp)) (b := (S.FC pp + j)) (by omega) (by omega)).mp c_22
        have hjT : j = S.nT pp := by omega
        rw [hjT] at hP hD ha1 ha2 ha3
        rw [← hQe]
        exact W.vret hx hb hr (fun t ht hW => ⟨⟨(vfu, vou, vnu), rfl, ⟨ha1, ha3, ha2⟩, by rw [ht]; exact hP, va_K.moved hW.alike hK, hD⟩, hS.F ht⟩) hS.2.2 d_Vw_gather_152
      · have n_22 : (S.FC pp + j) < (S.FC pp + S.nT pp) := Nat.lt_of_not_le (fun z => c_22 ((nI_leI (a := (S.FC pp + S.nT pp)) (b := (S.FC pp + j)) (by omega) (by omega)).mpr z))
        have hga := R.ca (S.FC pp + j) (by omega)
        have hcw := I.chw (k := pp + 1) (by omega) (x := (S.FC pp + j)) (by rw [hpi.fc]; omega)
        have hcw1 := hcw.1
        have hcf := I.cfl (i := (S.FC pp + j)) (by omega)
        have hnf := I.nfP
        have hf4 := hfit (j + 1) (by omega)
        have hf5 : numL (adB S) (seqL (S.FC pp) (j + 1)) = numL (adB S) (seqL (S.FC pp) j) + (if adB S (S.FC pp + j) then 1 else 0) := by rw [← numL_one, ← numL_app]; rfl
        have hno := nOf_le S (S.CF (S.FC pp + j)) (nmj S mw NM pp j)
        have hnN9 : (nmj S mw NM pp j).length = nmN S mw NM pp j := rfl
        refine lv_aload_n hx hb d_Vw_gather_25 rfl (lv_at hl 0 rfl) ?_
        refine va_get (D := (dC, dI)) (ci := 11) (v := .ref sk) (C := R_Vw) (T := F_Vw) (N := 14) hx hb hts i_Vw hown hK hP 0 rfl rfl 5 (by decide) (hts _ gw_330) (fun _ h9 => h9) rfl d_Vw_gather_26 ?_
        refine lv_iload_n hx hb d_Vw_gather_29 rfl (lv_at hl 2 rfl) ?_
        have hPc := hP.sub (ws' := [(sk, .inr (9, [.ref b_y, sk_from, sk_firstDependency, .ref fcA, sk_dependencies, sk_hashes, sk_byHash, sk_leansOn, sk_leantBy, .ref ch, sk_lines, sk_patches])), (b_y, .inl (cB, 290000, .inl S.f)), (ch, .inr (1, [.ref cat, ch_patch, .ref cfA, ch_firstLine, ch_adds, ch_files])), (cat, .inl (cI, 38000, .inl Z.ca))]) [1, 2, 4, 5] rfl
        have hDc := hD.sub (ws' := [(sk, .inr (9, [.ref b_y, sk_from, sk_firstDependency, .ref fcA, sk_dependencies, sk_hashes, sk_byHash, sk_leansOn, sk_leantBy, .ref ch, sk_lines, sk_patches])), (b_y, .inl (cB, 290000, .inl S.f)), (ch, .inr (1, [.ref cat, ch_patch, .ref cfA, ch_firstLine, ch_adds, ch_files])), (cat, .inl (cI, 38000, .inl Z.ca))]) [1, 2, 4, 5] (by decide) rfl
        have hFc := va_free (wc := [(sk, .inr (9, [.ref b_y, sk_from, sk_firstDependency, .ref fcA, sk_dependencies, sk_hashes, sk_byHash, sk_leansOn, sk_leantBy, .ref ch, sk_lines, sk_patches])), (b_y, .inl (cB, 290000, .inl S.f)), (ch, .inr (1, [.ref cat, ch_patch, .ref cfA, ch_firstLine, ch_adds, ch_files])), (cat, .inl (cI, 38000, .inl Z.ca))]) hD hS hA [1, 2, 4, 5] rfl
        refine va_calli (va_runV (As := [.int (nI (S.FC pp + j))]) (rest := []) ⟨hx, hb, hml, hown, hts⟩ (m_St_kind l dC dI cI cB cL cZ cR sk b_y ch cat (sk_from) (sk_firstDependency) (.ref fcA) (sk_dependencies) (sk_hashes) (sk_byHash) (sk_leansOn) (sk_leantBy) (sk_lines) (sk_patches) (ch_patch) (.ref cfA) (ch_firstLine) (ch_adds) (ch_files) S.f Z.ca (S.FC pp + j) (S.CA (S.FC pp + j)) H.size (by omega) hga (by omega)) (cwV 1 hts (xg_V gw_1004 gw_890 gw_891 gw_3 gw_892) rfl rfl rfl (by decide +kernel) ⟨Nat.le_of_ble_eq_true rfl, Nat.le_of_ble_eq_true rfl⟩) ⟨xw_blind, va_recv hK hPc (ci := 9) (q0 := 0) rfl rfl, fun U hU hW => ⟨rfl, by rw [hU], by rw [hU]; exact hPc, va_K.moved hW.alike hK, hDc.weaken (fun _ _ _ _ => trivial)⟩⟩ rfl rfl hl.1 rfl (lv_room (Nat.le_of_ble_eq_true rfl)) d_Vw_gather_30 ⟨Nat.le_of_ble_eq_true rfl, Nat.le_of_ble_eq_true rfl⟩) hS (fun q _ h => hFc q h) hFc (fun r9 u t H1 locs ht hvm hw hB hz1 hk1 hS => ?_)
        obtain ⟨hP1, hK1, hD1⟩ := hB
        rw [ht] at hP1
        obtain ⟨hP, hD⟩ := va_join (wr := [(h, .inr (11, [.ref vfA, .ref voA, .ref vnA, .int (nI (flN S FL pp j)), .int (nI (nmN S mw NM pp j)), .ref sk, .ref ch, vw_loaded, vw_version, .ref ovA, .int (nI rd), vw_heads, vw_nexts, vw_sharing])), (fcA, .inl (cI, 502, .inl Z.fc)), (cfA, .inl (cI, 38000, .inl Z.cf)), (ovA, .inl (cI, 38000, .inl ov)), (vfA, .inl (cI, 200, .inl vfu)), (voA, .inl (cI, 200, .inl vou)), (vnA, .inl (cI, 16800, .inl vnu))]) (w1 := [(sk, .inr (9, [.ref b_y, sk_from, sk_firstDependency, .ref fcA, sk_dependencies, sk_hashes, sk_byHash, sk_leansOn, sk_leantBy, .ref ch, sk_lines, sk_patches])), (b_y, .inl (cB, 290000, .inl S.f)), (ch, .inr (1, [.ref cat, ch_patch, .ref cfA, ch_firstLine, ch_adds, ch_files])), (cat, .inl (cI, 38000, .inl Z.ca))]) hP hD [1, 2, 4, 5] [0, 3, 6, 7, 8, 9, 10] rfl rfl (by decide) (by decide) hk1 hFc hP1 hD1
        generalize H1 = H at hP hS ⊢
        have hP : va_P (dC, dI) classes [(h, .inr (11, [.ref vfA, .ref voA, .ref vnA, .int (nI (flN S FL pp j)), .int (nI (nmN S mw NM pp j)), .ref sk, .ref ch, vw_loaded, vw_version, .ref ovA, .int (nI rd), vw_heads, vw_nexts, vw_sharing])), (fcA, .inl (cI, 502, .inl Z.fc)), (cfA, .inl (cI, 38000, .inl Z.cf)), (ovA, .inl (cI, 38000, .inl ov)), (vfA, .inl (cI, 200, .inl vfu)), (voA, .inl (cI, 200, .inl vou)), (vnA, .inl (cI, 16800, .inl vnu)), (sk, .inr (9, [.ref b_y, sk_from, sk_firstDependency, .ref fcA, sk_dependencies, sk_hashes, sk_byHash, sk_leansOn, sk_leantBy, .ref ch, sk_lines, sk_patches])), (b_y, .inl (cB, 290000, .inl S.f)), (ch, .inr (1, [.ref cat, ch_patch, .ref cfA, ch_firstLine, ch_adds, ch_files])), (cat, .inl (cI, 38000, .inl Z.ca))] H := hP
        have hD : va_D A [(h, .inr (11, [.ref vfA, .ref voA, .ref vnA, .int (nI (flN S FL pp j)), .int (nI (nmN S mw NM pp j)), .ref sk, .ref ch, vw_loaded, vw_version, .ref ovA, .int (nI rd), vw_heads, vw_nexts, vw_sharing])), (fcA, .inl (cI, 502, .inl Z.fc)), (cfA, .inl (cI, 38000, .inl Z.cf)), (ovA, .inl (cI, 38000, .inl ov)), (vfA, .inl (cI, 200, .inl vfu)), (voA, .inl (cI, 200, .inl vou)), (vnA, .inl (cI, 16800, .inl vnu)), (sk, .inr (9, [.ref b_y, sk_from, sk_firstDependency, .ref fcA, sk_dependencies, sk_hashes, sk_byHash, sk_leansOn, sk_leantBy, .ref ch, sk_lines, sk_patches])), (b_y, .inl (cB, 290000, .inl S.f)), (ch, .inr (1, [.ref cat, ch_patch, .ref cfA, ch_firstLine, ch_adds, ch_files])), (cat, .inl (cI, 38000, .inl Z.ca))] := hD
        subst hw
        refine lv_if_ne (tgt := 74) hx hb d_Vw_gather_33 (by decide) (fun c_33 => ?_) (fun c_33 => ?_)
        · have hk0 : ¬ S.f (S.CA (S.FC pp + j)) = 0 := c_33
          refine lv_aload_n hx hb d_Vw_gather_74 rfl (lv_at hl 0 rfl) ?_
          refine va_get (D := (dC, dI)) (ci := 11) (v := .ref sk) (C := R_Vw) (T := F_Vw) (N := 14) hx hb hts i_Vw hown hK hP 0 rfl rfl 5 (by decide) (hts _ gw_330) (fun _ h9 => h9) rfl d_Vw_gather_75 ?_
          refine lv_iload_n hx hb d_Vw_gather_78 rfl (lv_at hl 2 rfl) ?_
          have hPc := hP.sub (ws' := [(sk, .inr (9, [.ref b_y, sk_from, sk_firstDependency, .ref fcA, sk_dependencies, sk_hashes, sk_byHash, sk_leansOn, sk_leantBy, .ref ch, sk_lines, sk_patches])), (b_y, .inl (cB, 290000, .inl S.f)), (ch, .inr (1, [.ref cat, ch_patch, .ref cfA, ch_firstLine, ch_adds, ch_files])), (cat, .inl (cI, 38000, .inl Z.ca))]) [7, 8, 9, 10] rfl
          have hDc := hD.sub (ws' := [(sk, .inr (9, [.ref b_y, sk_from, sk_firstDependency, .ref fcA, sk_dependencies, sk_hashes, sk_byHash, sk_leansOn, sk_leantBy, .ref ch, sk_lines, sk_patches])), (b_y, .inl (cB, 290000, .inl S.f)), (ch, .inr (1, [.ref cat, ch_patch, .ref cfA, ch_firstLine, ch_adds, ch_files])), (cat, .inl (cI, 38000, .inl Z.ca))]) [7, 8, 9, 10] (by decide) rfl
          have hFc := va_free (wc := [(sk, .inr (9, [.ref b_y, sk_from, sk_firstDependency, .ref fcA, sk_dependencies, sk_hashes, sk_byHash, sk_leansOn, sk_leantBy, .ref ch, sk_lines, sk_patches])), (b_y, .inl (cB, 290000, .inl S.f)), (ch, .inr (1, [.ref cat, ch_patch, .ref cfA, ch_firstLine, ch_adds, ch_files])), (cat, .inl (cI, 38000, .inl Z.ca))]) hD hS hA [7, 8, 9, 10] rfl
          refine va_calli (va_runV (As := [.int (nI (S.FC pp + j))]) (rest := []) ⟨hx, hb, hml, hown, hts⟩ (m_St_isNaming l dC dI cI cB cL cZ cR sk b_y ch cat (sk_from) (sk_firstDependency) (.ref fcA) (sk_dependencies) (sk_hashes) (sk_byHash) (sk_leansOn) (sk_leantBy) (sk_lines) (sk_patches) (ch_patch) (.ref cfA) (ch_firstLine) (ch_adds) (ch_files) S.f Z.ca (S.FC pp + j) (S.CA (S.FC pp + j)) H.size (by omega) hga (by omega) (fun e9 => by have := hcw.2.1 e9; rw [show nmAt S.f (S.CA (S.FC pp + j)) = (S.CA (S.FC pp + j)) + 6 + 4 * b8 (S.f ((S.CA (S.FC pp + j)) + 5)) from if_neg (by rw [e9]; decide)]; omega)) (cwV 1 hts (xg_V gw_1011 gw_894 gw_895 gw_3 gw_896) rfl rfl rfl (by decide +kernel) ⟨Nat.le_of_ble_eq_true rfl, Nat.le_of_ble_eq_true rfl⟩) ⟨xw_blind, va_recv hK hPc (ci := 9) (q0 := 0) rfl rfl, fun U hU hW => ⟨rfl, by rw [hU], by rw [hU]; exact hPc, va_K.moved hW.alike hK, hDc.weaken (fun _ _ _ _ => trivial)⟩⟩ rfl rfl hl.1 rfl (lv_room (Nat.le_of_ble_eq_true rfl)) d_Vw_gather_79 ⟨Nat.le_of_ble_eq_true rfl, Nat.le_of_ble_eq_true rfl⟩) hS (fun q _ h => hFc q h) hFc (fun r9 u t H1 locs ht hvm hw hB hz1 hk1 hS => ?_)
          obtain ⟨hP1, hK1, hD1⟩ := hB
          rw [ht] at hP1
          obtain ⟨hP, hD⟩ := va_join (wr := [(h, .inr (11, [.ref vfA, .ref voA, .ref vnA, .int (nI (flN S FL pp j)), .int (nI (nmN S mw NM pp j)), .ref sk, .ref ch, vw_loaded, vw_version, .ref ovA, .int (nI rd), vw_heads, vw_nexts, vw_sharing])), (fcA, .inl (cI, 502, .inl Z.fc)), (cfA, .inl (cI, 38000, .inl Z.cf)), (ovA, .inl (cI, 38000, .inl ov)), (vfA, .inl (cI, 200, .inl vfu)), (voA, .inl (cI, 200, .inl vou)), (vnA, .inl (cI, 16800, .inl vnu))]) (w1 := [(sk, .inr (9, [.ref b_y, sk_from, sk_firstDependency, .ref fcA, sk_dependencies, sk_hashes, sk_byHash, sk_leansOn, sk_leantBy, .ref ch, sk_lines, sk_patches])), (b_y, .inl (cB, 290000, .inl S.f)), (ch, .inr (1, [.ref cat, ch_patch, .ref cfA, ch_firstLine, ch_adds, ch_files])), (cat, .inl (cI, 38000, .inl Z.ca))]) hP hD [7, 8, 9, 10] [0, 1, 2, 3, 4, 5, 6] rfl rfl (by decide) (by decide) hk1 hFc hP1 hD1
          generalize H1 = H at hP hS ⊢
          have hP : va_P (dC, dI) classes [(h, .inr (11, [.ref vfA, .ref voA, .ref vnA, .int (nI (flN S FL pp j)), .int (nI (nmN S mw NM pp j)), .ref sk, .ref ch, vw_loaded, vw_version, .ref ovA, .int (nI rd), vw_heads, vw_nexts, vw_sharing])), (fcA, .inl (cI, 502, .inl Z.fc)), (cfA, .inl (cI, 38000, .inl Z.cf)), (ovA, .inl (cI, 38000, .inl ov)), (vfA, .inl (cI, 200, .inl vfu)), (voA, .inl (cI, 200, .inl vou)), (vnA, .inl (cI, 16800, .inl vnu)), (sk, .inr (9, [.ref b_y, sk_from, sk_firstDependency, .ref fcA, sk_dependencies, sk_hashes, sk_byHash, sk_leansOn, sk_leantBy, .ref ch, sk_lines, sk_patches])), (b_y, .inl (cB, 290000, .inl S.f)), (ch, .inr (1, [.ref cat, ch_patch, .ref cfA, ch_firstLine, ch_adds, ch_files])), (cat, .inl (cI, 38000, .inl Z.ca))] H := hP
          have hD : va_D A [(h, .inr (11, [.ref vfA, .ref voA, .ref vnA, .int (nI (flN S FL pp j)), .int (nI (nmN S mw NM pp j)), .ref sk, .ref ch, vw_loaded, vw_version, .ref ovA, .int (nI rd), vw_heads, vw_nexts, vw_sharing])), (fcA, .inl (cI, 502, .inl Z.fc)), (cfA, .inl (cI, 38000, .inl Z.cf)), (ovA, .inl (cI, 38000, .inl ov)), (vfA, .inl (cI, 200, .inl vfu)), (voA, .inl (cI, 200, .inl vou)), (vnA, .inl (cI, 16800, .inl vnu)), (sk, .inr (9, [.ref b_y, sk_from, sk_firstDependency, .ref fcA, sk_dependencies, sk_hashes, sk_byHash, sk_leansOn, sk_leantBy, .ref ch, sk_lines, sk_patches])), (b_y, .inl (cB, 290000, .inl S.f)), (ch, .inr (1, [.ref cat, ch_patch, .ref cfA, ch_firstLine, ch_adds, ch_files])), (cat, .inl (cI, 38000, .inl Z.ca))] := hD
          rcases hw with ⟨rfl, hisn⟩ | ⟨rfl, hisn⟩
          · have hP : va_P (dC, dI) classes [(h, .inr (11, [.ref vfA, .ref voA, .ref vnA, .int (nI (flN S FL pp j)), .int (nI (nmN S mw NM pp j)), .ref sk, .ref ch, vw_loaded, vw_version, .ref ovA, .int (nI rd), vw_heads, vw_nexts, vw_sharing])), (fcA, .inl (cI, 502, .inl Z.fc)), (cfA, .inl (cI, 38000, .inl Z.cf)), (ovA, .inl (cI, 38000, .inl ov)), (vfA, .inl (cI, 200, .inl vfu)), (voA, .inl (cI, 200, .inl vou)), (vnA, .inl (cI, 16800, .inl vnu)), (sk, .inr (9, [.ref b_y, sk_from, sk_firstDependency, .ref fcA, sk_dependencies, sk_hashes, sk_byHash, sk_leansOn, sk_leantBy, .ref ch, sk_lines, sk_patches])), (b_y, .inl (cB, 290000, .inl S.f)), (ch, .inr (1, [.ref cat, ch_patch, .ref cfA, ch_firstLine, ch_adds, ch_files])), (cat, .inl (cI, 38000, .inl Z.ca))] H := hP
            have hD : va_D A [(h, .inr (11, [.ref vfA, .ref voA, .ref vnA, .int (nI (flN S FL pp j)), .int (nI (nmN S mw NM pp j)), .ref sk, .ref ch, vw_loaded, vw_version, .ref ovA, .int (nI rd), vw_heads, vw_nexts, vw_sharing])), (fcA, .inl (cI, 502, .inl Z.fc)), (cfA, .inl (cI, 38000, .inl Z.cf)), (ovA, .inl (cI, 38000, .inl ov)), (vfA, .inl (cI, 200, .inl vfu)), (voA, .inl (cI, 200, .inl vou)), (vnA, .inl (cI, 16800, .inl vnu)), (sk, .inr (9, [.ref b_y, sk_from, sk_firstDependency, .ref fcA, sk_dependencies, sk_hashes, sk_byHash, sk_leansOn, sk_leantBy, .ref ch, sk_lines, sk_patches])), (b_y, .inl (cB, 290000, .inl S.f)), (ch, .inr (1, [.ref cat, ch_patch, .ref cfA, ch_firstLine, ch_adds, ch_files])), (cat, .inl (cI, 38000, .inl Z.ca))] := hD
            refine lv_if_eq (tgt := 146) hx hb d_Vw_gather_82 (by decide) (fun c_82 => absurd c_82 (by decide)) (fun _ => ?_)
            refine lv_aload_n hx hb d_Vw_gather_85 rfl (lv_at hl 0 rfl) ?_
            refine va_get (D := (dC, dI)) (ci := 11) (v := .ref ovA) (C := R_Vw) (T := F_Vw) (N := 14) hx hb hts i_Vw hown hK hP 0 rfl rfl 9 (by decide) (hts _ gw_334) (fun _ h9 => h9) rfl d_Vw_gather_86 ?_
            refine lv_iload_n hx hb d_Vw_gather_89 rfl (lv_at hl 2 rfl) ?_
            refine va_iald hx hb hK hP 3 0 rfl rfl (vp_in_nI (by omega) (by omega)) d_Vw_gather_90 ?_
            rw [show (nI (S.FC pp + j)).toNatClampNeg = (S.FC pp + j) from nI_clamp (by omega)]
            refine lv_aload_n hx hb d_Vw_gather_91 rfl (lv_at hl 0 rfl) ?_
            refine va_get (D := (dC, dI)) (ci := 11) (v := .int (nI rd)) (C := R_Vw) (T := F_Vw) (N := 14) hx hb hts i_Vw hown hK hP 0 rfl rfl 10 (by decide) (hts _ gw_335) (fun _ h9 => h9) rfl d_Vw_gather_92 ?_
            refine lv_icmp_eq (tgt := 146) hx hb d_Vw_gather_95 (by decide) (fun c_95 => ?_) (fun c_95 => ?_)
            · refine lv_iinc (v := nI (S.FC pp + j + 1)) (lv' := [(2, .int (nI (S.FC pp + j + 1))), (0, .ref h), (1, .int (nI pp))]) hx hb d_Vw_gather_146 hl (k := 2) rfl (by exact nI_add _ _) (by decide) rfl (fun ls hl => ?_)
              refine lv_goto (tgt := 10) hx hb d_Vw_gather_149 (by decide) ?_
              have hflj : flj S FL pp (j + 1) = flj S FL pp j := (flj_no hk0)
              have hnmj : nmj S mw NM pp (j + 1) = (nmj S mw NM pp j) := (nmj_no (thB_no2 ((hov (S.FC pp + j) (by omega)).mp c_95)))
              have hfN : flN S FL pp j = flN S FL pp (j + 1) := by unfold flN; rw [hflj]
              have hnN : nmN S mw NM pp j = nmN S mw NM pp (j + 1) := by unfold nmN; rw [hnmj]
              rw [show nI (flN S FL pp j) = nI (flN S FL pp (j + 1)) from congrArg nI hfN, show nI (nmN S mw NM pp j) = nI (nmN S mw NM pp (j + 1)) from congrArg nI hnN] at hP hD
              exact ih_10 (j + 1) vfu vou vnu _ _ _ (by omega) (by omega) (by rw [hflj]; exact ha1) (by rw [hnmj]; exact ha3) (by rw [hnmj]; exact ha2) (hP.sub [0, 7, 8, 1, 9, 10, 2, 3, 4, 5, 6] rfl) (hD.sub [0, 7, 8, 1, 9, 10, 2, 3, 4, 5, 6] (by decide) rfl) hS (lv_sub hl [1, 2, 0] rfl)
            · refine lv_aload_n hx hb d_Vw_gather_98 rfl (lv_at hl 0 rfl) ?_
              refine va_get (D := (dC, dI)) (ci := 11) (v := .int (nI (nmN S mw NM pp j))) (C := R_Vw) (T := F_Vw) (N := 14) hx hb hts i_Vw hown hK hP 0 rfl rfl 4 (by decide) (hts _ gw_328) (fun _ h9 => h9) rfl d_Vw_gather_99 ?_
              refine lv_sipush (v := 16800) hx hb d_Vw_gather_102 (by decide) ?_
              refine lv_icmp_ge (tgt := 146) hx hb d_Vw_gather_105 (by decide) (fun c_105 => absurd c_105 (fun z => absurd ((nI_leI (a := 16800) (b := nmN S mw NM pp j) (by omega) (by omega)).mp z) (by omega))) (fun _ => ?_)
              refine lv_aload_n hx hb d_Vw_gather_108 rfl (lv_at hl 0 rfl) ?_
              refine va_get (D := (dC, dI)) (ci := 11) (v := .ref vnA) (C := R_Vw) (T := F_Vw) (N := 14) hx hb hts i_Vw hown hK hP 0 rfl rfl 2 (by decide) (hts _ gw_324) (fun _ h9 => h9) rfl d_Vw_gather_109 ?_
              refine lv_aload_n hx hb d_Vw_gather_112 rfl (lv_at hl 0 rfl) ?_
              refine va_get (D := (dC, dI)) (ci := 11) (v := .int (nI (nmN S mw NM pp j))) (C := R_Vw) (T := F_Vw) (N := 14) hx hb hts i_Vw hown hK hP 0 rfl rfl 4 (by decide) (hts _ gw_328) (fun _ h9 => h9) rfl d_Vw_gather_113 ?_
              refine lv_iload_n hx hb d_Vw_gather_116 rfl (lv_at hl 2 rfl) ?_
              refine va_iast hx hb hK hP hD hS 6 0 rfl rfl (vp_in_nI (by omega) (by omega)) d_Vw_gather_117 (fun H locs hP hD hS => ?_)
              rw [show (nI (nmN S mw NM pp j)).toNatClampNeg = (nmN S mw NM pp j) from nI_clamp (by omega)] at hP hD
              have hP : va_P (dC, dI) classes [(h, .inr (11, [.ref vfA, .ref voA, .ref vnA, .int (nI (flN S FL pp j)), .int (nI (nmN S mw NM pp j)), .ref sk, .ref ch, vw_loaded, vw_version, .ref ovA, .int (nI rd), vw_heads, vw_nexts, vw_sharing])), (fcA, .inl (cI, 502, .inl Z.fc)), (cfA, .inl (cI, 38000, .inl Z.cf)), (ovA, .inl (cI, 38000, .inl ov)), (vfA, .inl (cI, 200, .inl vfu)), (voA, .inl (cI, 200, .inl vou)), (vnA, .inl (cI, 16800, .inl (upd vnu (nmN S mw NM pp j) (nI (S.FC pp + j))))), (sk, .inr (9, [.ref b_y, sk_from, sk_firstDependency, .ref fcA, sk_dependencies, sk_hashes, sk_byHash, sk_leansOn, sk_leantBy, .ref ch, sk_lines, sk_patches])), (b_y, .inl (cB, 290000, .inl S.f)), (ch, .inr (1, [.ref cat, ch_patch, .ref cfA, ch_firstLine, ch_adds, ch_files])), (cat, .inl (cI, 38000, .inl Z.ca))] H := hP
              have hD : va_D A [(h, .inr (11, [.ref vfA, .ref voA, .ref vnA, .int (nI (flN S FL pp j)), .int (nI (nmN S mw NM pp j)), .ref sk, .ref ch, vw_loaded, vw_version, .ref ovA, .int (nI rd), vw_heads, vw_nexts, vw_sharing])), (fcA, .inl (cI, 502, .inl Z.fc)), (cfA, .inl (cI, 38000, .inl Z.cf)), (ovA, .inl (cI, 38000, .inl ov)), (vfA, .inl (cI, 200, .inl vfu)), (voA, .inl (cI, 200, .inl vou)), (vnA, .inl (cI, 16800, .inl (upd vnu (nmN S mw NM pp j) (nI (S.FC pp + j))))), (sk, .inr (9, [.ref b_y, sk_from, sk_firstDependency, .ref fcA, sk_dependencies, sk_hashes, sk_byHash, sk_leansOn, sk_leantBy, .ref ch, sk_lines, sk_patches])), (b_y, .inl (cB, 290000, .inl S.f)), (ch, .inr (1, [.ref cat, ch_patch, .ref cfA, ch_firstLine, ch_adds, ch_files])), (cat, .inl (cI, 38000, .inl Z.ca))] := hD
              refine lv_aload_n hx hb d_Vw_gather_118 rfl (lv_at hl 0 rfl) ?_
              refine lv_dup hx hb d_Vw_gather_119 rfl ?_
              refine va_get (D := (dC, dI)) (ci := 11) (v := .int (nI (nmN S mw NM pp j))) (C := R_Vw) (T := F_Vw) (N := 14) hx hb hts i_Vw hown hK hP 0 rfl rfl 4 (by decide) (hts _ gw_328) (fun _ h9 => h9) rfl d_Vw_gather_120 ?_
              refine lv_iconst (v := 1) hx hb d_Vw_gather_123 (by decide) ?_
              refine lv_iadd hx hb d_Vw_gather_124 ?_
              refine lv_topi (fun x_4 ex_4 => ?_)
              obtain rfl : x_4 = nI (nmN S mw NM pp j + 1) := by rw [ex_4]; first | done | (exact nI_add _ _)
              refine va_put (D := (dC, dI)) (ci := 11) (v := .int (nI (nmN S mw NM pp j + 1))) (ty := .int) (C := R_Vw) (T := F_Vw) (N := 14) hx hb hts i_Vw t_Vw t_Vw_ok n_Vw hown hK hP hD hS 0 rfl rfl 4 (by decide) (hts _ gw_328) (fun _ h9 => h9) rfl (by decide +kernel) rfl rfl (Nat.le_of_ble_eq_true rfl) d_Vw_gather_125 (fun H locs hP hD hS => ?_)
              have hP : va_P (dC, dI) classes [(h, .inr (11, [.ref vfA, .ref voA, .ref vnA, .int (nI (flN S FL pp j)), .int (nI (nmN S mw NM pp j + 1)), .ref sk, .ref ch, vw_loaded, vw_version, .ref ovA, .int (nI rd), vw_heads, vw_nexts, vw_sharing])), (fcA, .inl (cI, 502, .inl Z.fc)), (cfA, .inl (cI, 38000, .inl Z.cf)), (ovA, .inl (cI, 38000, .inl ov)), (vfA, .inl (cI, 200, .inl vfu)), (voA, .inl (cI, 200, .inl vou)), (vnA, .inl (cI, 16800, .inl (upd vnu (nmN S mw NM pp j) (nI (S.FC pp + j))))), (sk, .inr (9, [.ref b_y, sk_from, sk_firstDependency, .ref fcA, sk_dependencies, sk_hashes, sk_byHash, sk_leansOn, sk_leantBy, .ref ch, sk_lines, sk_patches])), (b_y, .inl (cB, 290000, .inl S.f)), (ch, .inr (1, [.ref cat, ch_patch, .ref cfA, ch_firstLine, ch_adds, ch_files])), (cat, .inl (cI, 38000, .inl Z.ca))] H := hP
              have hD : va_D A [(h, .inr (11, [.ref vfA, .ref voA, .ref vnA, .int (nI (flN S FL pp j)), .int (nI (nmN S mw NM pp j + 1)), .ref sk, .ref ch, vw_loaded, vw_version, .ref ovA, .int (nI rd), vw_heads, vw_nexts, vw_sharing])), (fcA, .inl (cI, 502, .inl Z.fc)), (cfA, .inl (cI, 38000, .inl Z.cf)), (ovA, .inl (cI, 38000, .inl ov)), (vfA, .inl (cI, 200, .inl vfu)), (voA, .inl (cI, 200, .inl vou)), (vnA, .inl (cI, 16800, .inl (upd vnu (nmN S mw NM pp j) (nI (S.FC pp + j))))), (sk, .inr (9, [.ref b_y, sk_from, sk_firstDependency, .ref fcA, sk_dependencies, sk_hashes, sk_byHash, sk_leansOn, sk_leantBy, .ref ch, sk_lines, sk_patches])), (b_y, .inl (cB, 290000, .inl S.f)), (ch, .inr (1, [.ref cat, ch_patch, .ref cfA, ch_firstLine, ch_adds, ch_files])), (cat, .inl (cI, 38000, .inl Z.ca))] := hD
              refine lv_aload_n hx hb d_Vw_gather_128 rfl (lv_at hl 0 rfl) ?_
              refine va_get (D := (dC, dI)) (ci := 11) (v := .ref voA) (C := R_Vw) (T := F_Vw) (N := 14) hx hb hts i_Vw hown hK hP 0 rfl rfl 1 (by decide) (hts _ gw_321) (fun _ h9 => h9) rfl d_Vw_gather_129 ?_
              refine lv_aload_n hx hb d_Vw_gather_132 rfl (lv_at hl 0 rfl) ?_
              refine va_get (D := (dC, dI)) (ci := 11) (v := .ref ch) (C := R_Vw) (T := F_Vw) (N := 14) hx hb hts i_Vw hown hK hP 0 rfl rfl 6 (by decide) (hts _ gw_331) (fun _ h9 => h9) rfl d_Vw_gather_133 ?_
              refine va_get (D := (dC, dI)) (ci := 1) (v := .ref cfA) (C := R_Ch) (T := F_Ch) (N := 6) hx hb hts i_Ch hown hK hP 9 rfl rfl 2 (by decide) (hts _ gw_100) (fun _ h9 => h9) rfl d_Vw_gather_136 ?_
              refine lv_iload_n hx hb d_Vw_gather_139 rfl (lv_at hl 2 rfl) ?_
              refine va_iald hx hb hK hP 2 0 rfl rfl (vp_in_nI (by omega) (by omega)) d_Vw_gather_140 ?_
              rw [show (nI (S.FC pp + j)).toNatClampNeg = (S.FC pp + j) from nI_clamp (by omega)]
              refine lv_topi (fun x_5 ex_5 => ?_)
              obtain rfl : x_5 = nI (S.CF (S.FC pp + j)) := by rw [ex_5]; first | done | (exact R.cf (S.FC pp + j) (by omega))
              refine lv_dup2_11 hx hb d_Vw_gather_141 rfl rfl ?_
              refine va_iald hx hb hK hP 5 0 rfl rfl (vp_in_nI (by omega) (by omega)) d_Vw_gather_142 ?_
              rw [show (nI (S.CF (S.FC pp + j))).toNatClampNeg = (S.CF (S.FC pp + j)) from nI_clamp (by omega)]
              refine lv_topi (fun x_6 ex_6 => ?_)
              obtain rfl : x_6 = nI (nOf S (S.CF (S.FC pp + j)) (nmj S mw NM pp j)) := by rw [ex_6]; first | done | (exact ha3 _ (by omega))
              refine lv_iconst (v := 1) hx hb d_Vw_gather_143 (by decide) ?_
              refine lv_iadd hx hb d_Vw_gather_144 ?_
              refine lv_topi (fun x_7 ex_7 => ?_)
              obtain rfl : x_7 = nI ((nOf S (S.CF (S.FC pp + j)) (nmj S mw NM pp j)) + 1) := by rw [ex_7]; first | done | (exact nI_add _ _)
              refine va_iast hx hb hK hP hD hS 5 0 rfl rfl (vp_in_nI (by omega) (by omega)) d_Vw_gather_145 (fun H locs hP hD hS => ?_)
              rw [show (nI (S.CF (S.FC pp + j))).toNatClampNeg = (S.CF (S.FC pp + j)) from nI_clamp (by omega)] at hP hD
              have hP : va_P (dC, dI) classes [(h, .inr (11, [.ref vfA, .ref voA, .ref vnA, .int (nI (flN S FL pp j)), .int (nI (nmN S mw NM pp j + 1)), .ref sk, .ref ch, vw_loaded, vw_version, .ref ovA, .int (nI rd), vw_heads, vw_nexts, vw_sharing])), (fcA, .inl (cI, 502, .inl Z.fc)), (cfA, .inl (cI, 38000, .inl Z.cf)), (ovA, .inl (cI, 38000, .inl ov)), (vfA, .inl (cI, 200, .inl vfu)), (voA, .inl (cI, 200, .inl (upd vou (S.CF (S.FC pp + j)) (nI ((nOf S (S.CF (S.FC pp + j)) (nmj S mw NM pp j)) + 1))))), (vnA, .inl (cI, 16800, .inl (upd vnu (nmN S mw NM pp j) (nI (S.FC pp + j))))), (sk, .inr (9, [.ref b_y, sk_from, sk_firstDependency, .ref fcA, sk_dependencies, sk_hashes, sk_byHash, sk_leansOn, sk_leantBy, .ref ch, sk_lines, sk_patches])), (b_y, .inl (cB, 290000, .inl S.f)), (ch, .inr (1, [.ref cat, ch_patch, .ref cfA, ch_firstLine, ch_adds, ch_files])), (cat, .inl (cI, 38000, .inl Z.ca))] H := hP
              have hD : va_D A [(h, .inr (11, [.ref vfA, .ref voA, .ref vnA, .int (nI (flN S FL pp j)), .int (nI (nmN S mw NM pp j + 1)), .ref sk, .ref ch, vw_loaded, vw_version, .ref ovA, .int (nI rd), vw_heads, vw_nexts, vw_sharing])), (fcA, .inl (cI, 502, .inl Z.fc)), (cfA, .inl (cI, 38000, .inl Z.cf)), (ovA, .inl (cI, 38000, .inl ov)), (vfA, .inl (cI, 200, .inl vfu)), (voA, .inl (cI, 200, .inl (upd vou (S.CF (S.FC pp + j)) (nI ((nOf S (S.CF (S.FC pp + j)) (nmj S mw NM pp j)) + 1))))), (vnA, .inl (cI, 16800, .inl (upd vnu (nmN S mw NM pp j) (nI (S.FC pp + j))))), (sk, .inr (9, [.ref b_y, sk_from, sk_firstDependency, .ref fcA, sk_dependencies, sk_hashes, sk_byHash, sk_leansOn, sk_leantBy, .ref ch, sk_lines, sk_patches])), (b_y, .inl (cB, 290000, .inl S.f)), (ch, .inr (1, [.ref cat, ch_patch, .ref cfA, ch_firstLine, ch_adds, ch_files])), (cat, .inl (cI, 38000, .inl Z.ca))] := hD
              refine lv_iinc (v := nI (S.FC pp + j + 1)) (lv' := [(2, .int (nI (S.FC pp + j + 1))), (0, .ref h), (1, .int (nI pp))]) hx hb d_Vw_gather_146 hl (k := 2) rfl (by exact nI_add _ _) (by decide) rfl (fun ls hl => ?_)
              refine lv_goto (tgt := 10) hx hb d_Vw_gather_149 (by decide) ?_
              have hflj : flj S FL pp (j + 1) = flj S FL pp j := (flj_no hk0)
              have hnmj : nmj S mw NM pp (j + 1) = (nmj S mw NM pp j) ++ [(S.FC pp + j)] := (nmj_yes (thB_yes hisn (fun z => c_95 ((hov (S.FC pp + j) (by omega)).mpr z))))
              have hfN : flN S FL pp j = flN S FL pp (j + 1) := by unfold flN; rw [hflj]
              have hnN : nmN S mw NM pp j + 1 = nmN S mw NM pp (j + 1) := by unfold nmN; rw [hnmj]; rw [List.length_append]; rfl
              rw [show nI (flN S FL pp j) = nI (flN S FL pp (j + 1)) from congrArg nI hfN, show nI ((nmN S mw NM pp j) + 1) = nI (nmN S mw NM pp (j + 1)) from congrArg nI hnN] at hP hD
              exact ih_10 (j + 1) vfu (upd vou (S.CF (S.FC pp + j)) (nI ((nOf S (S.CF (S.FC pp + j)) (nmj S mw NM pp j)) + 1))) (upd vnu (nmN S mw NM pp j) (nI (S.FC pp + j))) _ _ _ (by omega) (by omega) (by rw [hflj]; exact ha1) (by rw [hnmj]; exact nOf_up ha3) (by rw [hnmj]; exact ha2.push _) (hP.sub [0, 7, 8, 1, 9, 10, 2, 3, 4, 5, 6] rfl) (hD.sub [0, 7, 8, 1, 9, 10, 2, 3, 4, 5, 6] (by decide) rfl) hS (lv_sub hl [1, 2, 0] rfl)
          · have hP : va_P (dC, dI) classes [(h, .inr (11, [.ref vfA, .ref voA, .ref vnA, .int (nI (flN S FL pp j)), .int (nI (nmN S mw NM pp j)), .ref sk, .ref ch, vw_loaded, vw_version, .ref ovA, .int (nI rd), vw_heads, vw_nexts, vw_sharing])), (fcA, .inl (cI, 502, .inl Z.fc)), (cfA, .inl (cI, 38000, .inl Z.cf)), (ovA, .inl (cI, 38000, .inl ov)), (vfA, .inl (cI, 200, .inl vfu)), (voA, .inl (cI, 200, .inl vou)), (vnA, .inl (cI, 16800, .inl vnu)), (sk, .inr (9, [.ref b_y, sk_from, sk_firstDependency, .ref fcA, sk_dependencies, sk_hashes, sk_byHash, sk_leansOn, sk_leantBy, .ref ch, sk_lines, sk_patches])), (b_y, .inl (cB, 290000, .inl S.f)), (ch, .inr (1, [.ref cat, ch_patch, .ref cfA, ch_firstLine, ch_adds, ch_files])), (cat, .inl (cI, 38000, .inl Z.ca))] H := hP
            have hD : va_D A [(h, .inr (11, [.ref vfA, .ref voA, .ref vnA, .int (nI (flN S FL pp j)), .int (nI (nmN S mw NM pp j)), .ref sk, .ref ch, vw_loaded, vw_version, .ref ovA, .int (nI rd), vw_heads, vw_nexts, vw_sharing])), (fcA, .inl (cI, 502, .inl Z.fc)), (cfA, .inl (cI, 38000, .inl Z.cf)), (ovA, .inl (cI, 38000, .inl ov)), (vfA, .inl (cI, 200, .inl vfu)), (voA, .inl (cI, 200, .inl vou)), (vnA, .inl (cI, 16800, .inl vnu)), (sk, .inr (9, [.ref b_y, sk_from, sk_firstDependency, .ref fcA, sk_dependencies, sk_hashes, sk_byHash, sk_leansOn, sk_leantBy, .ref ch, sk_lines, sk_patches])), (b_y, .inl (cB, 290000, .inl S.f)), (ch, .inr (1, [.ref cat, ch_patch, .ref cfA, ch_firstLine, ch_adds, ch_files])), (cat, .inl (cI, 38000, .inl Z.ca))] := hD
            refine lv_if_eq (tgt := 146) hx hb d_Vw_gather_82 (by decide) (fun _ => ?_) (fun c_82 => absurd (by decide) c_82)
            refine lv_iinc (v := nI (S.FC pp + j + 1)) (lv' := [(2, .int (nI (S.FC pp + j + 1))), (0, .ref h), (1, .int (nI pp))]) hx hb d_Vw_gather_146 hl (k := 2) rfl (by exact nI_add _ _) (by decide) rfl (fun ls hl => ?_)
            refine lv_goto (tgt := 10) hx hb d_Vw_gather_149 (by decide) ?_
            have hflj : flj S FL pp (j + 1) = flj S FL pp j := (flj_no hk0)
            have hnmj : nmj S mw NM pp (j + 1) = (nmj S mw NM pp j) := (nmj_no (thB_no1 hisn))
            have hfN : flN S FL pp j = flN S FL pp (j + 1) := by unfold flN; rw [hflj]
            have hnN : nmN S mw NM pp j = nmN S mw NM pp (j + 1) := by unfold nmN; rw [hnmj]
            rw [show nI (flN S FL pp j) = nI (flN S FL pp (j + 1)) from congrArg nI hfN, show nI (nmN S mw NM pp j) = nI (nmN S mw NM pp (j + 1)) from congrArg nI hnN] at hP hD
            exact ih_10 (j + 1) vfu vou vnu _ _ _ (by omega) (by omega) (by rw [hflj]; exact ha1) (by rw [hnmj]; exact ha3) (by rw [hnmj]; exact ha2) (hP.sub [0, 7, 8, 1, 9, 10, 2, 3, 4, 5, 6] rfl) (hD.sub [0, 7, 8, 1, 9, 10, 2, 3, 4, 5, 6] (by decide) rfl) hS (lv_sub hl [1, 2, 0] rfl)
        · rw [if_pos (adB_iff.mpr c_33)] at hf5
          refine lv_aload_n hx hb d_Vw_gather_36 rfl (lv_at hl 0 rfl) ?_
          refine va_get (D := (dC, dI)) (ci := 11) (v := .int (nI (flN S FL pp j))) (C := R_Vw) (T := F_Vw) (N := 14) hx hb hts i_Vw hown hK hP 0 rfl rfl 3 (by decide) (hts _ gw_326) (fun _ h9 => h9) rfl d_Vw_gather_37 ?_
          refine lv_sipush (v := 200) hx hb d_Vw_gather_40 (by decide) ?_
          refine lv_icmp_ge (tgt := 74) hx hb d_Vw_gather_43 (by decide) (fun c_43 => absurd c_43 (fun z => absurd ((nI_leI (a := 200) (b := flN S FL pp j) (by omega) (by omega)).mp z) (by omega))) (fun _ => ?_)
          refine lv_aload_n hx hb d_Vw_gather_46 rfl (lv_at hl 0 rfl) ?_
          refine va_get (D := (dC, dI)) (ci := 11) (v := .ref vfA) (C := R_Vw) (T := F_Vw) (N := 14) hx hb hts i_Vw hown hK hP 0 rfl rfl 0 (by decide) (hts _ gw_319) (fun _ h9 => h9) rfl d_Vw_gather_47 ?_
          refine lv_aload_n hx hb d_Vw_gather_50 rfl (lv_at hl 0 rfl) ?_
          refine va_get (D := (dC, dI)) (ci := 11) (v := .int (nI (flN S FL pp j))) (C := R_Vw) (T := F_Vw) (N := 14) hx hb hts i_Vw hown hK hP 0 rfl rfl 3 (by decide) (hts _ gw_326) (fun _ h9 => h9) rfl d_Vw_gather_51 ?_
          refine lv_aload_n hx hb d_Vw_gather_54 rfl (lv_at hl 0 rfl) ?_
          refine va_get (D := (dC, dI)) (ci := 11) (v := .ref ch) (C := R_Vw) (T := F_Vw) (N := 14) hx hb hts i_Vw hown hK hP 0 rfl rfl 6 (by decide) (hts _ gw_331) (fun _ h9 => h9) rfl d_Vw_gather_55 ?_
          refine va_get (D := (dC, dI)) (ci := 1) (v := .ref cfA) (C := R_Ch) (T := F_Ch) (N := 6) hx hb hts i_Ch hown hK hP 9 rfl rfl 2 (by decide) (hts _ gw_100) (fun _ h9 => h9) rfl d_Vw_gather_58 ?_
          refine lv_iload_n hx hb d_Vw_gather_61 rfl (lv_at hl 2 rfl) ?_
          refine va_iald hx hb hK hP 2 0 rfl rfl (vp_in_nI (by omega) (by omega)) d_Vw_gather_62 ?_
          rw [show (nI (S.FC pp + j)).toNatClampNeg = (S.FC pp + j) from nI_clamp (by omega)]
          refine lv_topi (fun x_8 ex_8 => ?_)
          obtain rfl : x_8 = nI (S.CF (S.FC pp + j)) := by rw [ex_8]; first | done | (exact R.cf (S.FC pp + j) (by omega))
          refine va_iast hx hb hK hP hD hS 4 0 rfl rfl (vp_in_nI (by omega) (by omega)) d_Vw_gather_63 (fun H locs hP hD hS => ?_)
          rw [show (nI (flN S FL pp j)).toNatClampNeg = (flN S FL pp j) from nI_clamp (by omega)] at hP hD
          have hP : va_P (dC, dI) classes [(h, .inr (11, [.ref vfA, .ref voA, .ref vnA, .int (nI (flN S FL pp j)), .int (nI (nmN S mw NM pp j)), .ref sk, .ref ch, vw_loaded, vw_version, .ref ovA, .int (nI rd), vw_heads, vw_nexts, vw_sharing])), (fcA, .inl (cI, 502, .inl Z.fc)), (cfA, .inl (cI, 38000, .inl Z.cf)), (ovA, .inl (cI, 38000, .inl ov)), (vfA, .inl (cI, 200, .inl (upd vfu (flN S FL pp j) (nI (S.CF (S.FC pp + j)))))), (voA, .inl (cI, 200, .inl vou)), (vnA, .inl (cI, 16800, .inl vnu)), (sk, .inr (9, [.ref b_y, sk_from, sk_firstDependency, .ref fcA, sk_dependencies, sk_hashes, sk_byHash, sk_leansOn, sk_leantBy, .ref ch, sk_lines, sk_patches])), (b_y, .inl (cB, 290000, .inl S.f)), (ch, .inr (1, [.ref cat, ch_patch, .ref cfA, ch_firstLine, ch_adds, ch_files])), (cat, .inl (cI, 38000, .inl Z.ca))] H := hP
          have hD : va_D A [(h, .inr (11, [.ref vfA, .ref voA, .ref vnA, .int (nI (flN S FL pp j)), .int (nI (nmN S mw NM pp j)), .ref sk, .ref ch, vw_loaded, vw_version, .ref ovA, .int (nI rd), vw_heads, vw_nexts, vw_sharing])), (fcA, .inl (cI, 502, .inl Z.fc)), (cfA, .inl (cI, 38000, .inl Z.cf)), (ovA, .inl (cI, 38000, .inl ov)), (vfA, .inl (cI, 200, .inl (upd vfu (flN S FL pp j) (nI (S.CF (S.FC pp + j)))))), (voA, .inl (cI, 200, .inl vou)), (vnA, .inl (cI, 16800, .inl vnu)), (sk, .inr (9, [.ref b_y, sk_from, sk_firstDependency, .ref fcA, sk_dependencies, sk_hashes, sk_byHash, sk_leansOn, sk_leantBy, .ref ch, sk_lines, sk_patches])), (b_y, .inl (cB, 290000, .inl S.f)), (ch, .inr (1, [.ref cat, ch_patch, .ref cfA, ch_firstLine, ch_adds, ch_files])), (cat, .inl (cI, 38000, .inl Z.ca))] := hD
          refine lv_aload_n hx hb d_Vw_gather_64 rfl (lv_at hl 0 rfl) ?_
          refine lv_dup hx hb d_Vw_gather_65 rfl ?_
          refine va_get (D := (dC, dI)) (ci := 11) (v := .int (nI (flN S FL pp j))) (C := R_Vw) (T := F_Vw) (N := 14) hx hb hts i_Vw hown hK hP 0 rfl rfl 3 (by decide) (hts _ gw_326) (fun _ h9 => h9) rfl d_Vw_gather_66 ?_
          refine lv_iconst (v := 1) hx hb d_Vw_gather_69 (by decide) ?_
          refine lv_iadd hx hb d_Vw_gather_70 ?_
          refine lv_topi (fun x_9 ex_9 => ?_)
          obtain rfl : x_9 = nI (flN S FL pp j + 1) := by rw [ex_9]; first | done | (exact nI_add _ _)
          refine va_put (D := (dC, dI)) (ci := 11) (v := .int (nI (flN S FL pp j + 1))) (ty := .int) (C := R_Vw) (T := F_Vw) (N := 14) hx hb hts i_Vw t_Vw t_Vw_ok n_Vw hown hK hP hD hS 0 rfl rfl 3 (by decide) (hts _ gw_326) (fun _ h9 => h9) rfl (by decide +kernel) rfl rfl (Nat.le_of_ble_eq_true rfl) d_Vw_gather_71 (fun H locs hP hD hS => ?_)
          have hP : va_P (dC, dI) classes [(h, .inr (11, [.ref vfA, .ref voA, .ref vnA, .int (nI (flN S FL pp j + 1)), .int (nI (nmN S mw NM pp j)), .ref sk, .ref ch, vw_loaded, vw_version, .ref ovA, .int (nI rd), vw_heads, vw_nexts, vw_sharing])), (fcA, .inl (cI, 502, .inl Z.fc)), (cfA, .inl (cI, 38000, .inl Z.cf)), (ovA, .inl (cI, 38000, .inl ov)), (vfA, .inl (cI, 200, .inl (upd vfu (flN S FL pp j) (nI (S.CF (S.FC pp + j)))))), (voA, .inl (cI, 200, .inl vou)), (vnA, .inl (cI, 16800, .inl vnu)), (sk, .inr (9, [.ref b_y, sk_from, sk_firstDependency, .ref fcA, sk_dependencies, sk_hashes, sk_byHash, sk_leansOn, sk_leantBy, .ref ch, sk_lines, sk_patches])), (b_y, .inl (cB, 290000, .inl S.f)), (ch, .inr (1, [.ref cat, ch_patch, .ref cfA, ch_firstLine, ch_adds, ch_files])), (cat, .inl (cI, 38000, .inl Z.ca))] H := hP
          have hD : va_D A [(h, .inr (11, [.ref vfA, .ref voA, .ref vnA, .int (nI (flN S FL pp j + 1)), .int (nI (nmN S mw NM pp j)), .ref sk, .ref ch, vw_loaded, vw_version, .ref ovA, .int (nI rd), vw_heads, vw_nexts, vw_sharing])), (fcA, .inl (cI, 502, .inl Z.fc)), (cfA, .inl (cI, 38000, .inl Z.cf)), (ovA, .inl (cI, 38000, .inl ov)), (vfA, .inl (cI, 200, .inl (upd vfu (flN S FL pp j) (nI (S.CF (S.FC pp + j)))))), (voA, .inl (cI, 200, .inl vou)), (vnA, .inl (cI, 16800, .inl vnu)), (sk, .inr (9, [.ref b_y, sk_from, sk_firstDependency, .ref fcA, sk_dependencies, sk_hashes, sk_byHash, sk_leansOn, sk_leantBy, .ref ch, sk_lines, sk_patches])), (b_y, .inl (cB, 290000, .inl S.f)), (ch, .inr (1, [.ref cat, ch_patch, .ref cfA, ch_firstLine, ch_adds, ch_files])), (cat, .inl (cI, 38000, .inl Z.ca))] := hD
          refine lv_aload_n hx hb d_Vw_gather_74 rfl (lv_at hl 0 rfl) ?_
          refine va_get (D := (dC, dI)) (ci := 11) (v := .ref sk) (C := R_Vw) (T := F_Vw) (N := 14) hx hb hts i_Vw hown hK hP 0 rfl rfl 5 (by decide) (hts _ gw_330) (fun _ h9 => h9) rfl d_Vw_gather_75 ?_
          refine lv_iload_n hx hb d_Vw_gather_78 rfl (lv_at hl 2 rfl) ?_
          have hPc := hP.sub (ws' := [(sk, .inr (9, [.ref b_y, sk_from, sk_firstDependency, .ref fcA, sk_dependencies, sk_hashes, sk_byHash, sk_leansOn, sk_leantBy, .ref ch, sk_lines, sk_patches])), (b_y, .inl (cB, 290000, .inl S.f)), (ch, .inr (1, [.ref cat, ch_patch, .ref cfA, ch_firstLine, ch_adds, ch_files])), (cat, .inl (cI, 38000, .inl Z.ca))]) [7, 8, 9, 10] rfl
          have hDc := hD.sub (ws' := [(sk, .inr (9, [.ref b_y, sk_from, sk_firstDependency, .ref fcA, sk_dependencies, sk_hashes, sk_byHash, sk_leansOn, sk_leantBy, .ref ch, sk_lines, sk_patches])), (b_y, .inl (cB, 290000, .inl S.f)), (ch, .inr (1, [.ref cat, ch_patch, .ref cfA, ch_firstLine, ch_adds, ch_files])), (cat, .inl (cI, 38000, .inl Z.ca))]) [7, 8, 9, 10] (by decide) rfl
          have hFc := va_free (wc := [(sk, .inr (9, [.ref b_y, sk_from, sk_firstDependency, .ref fcA, sk_dependencies, sk_hashes, sk_byHash, sk_leansOn, sk_leantBy, .ref ch, sk_lines, sk_patches])), (b_y, .inl (cB, 290000, .inl S.f)), (ch, .inr (1, [.ref cat, ch_patch, .ref cfA, ch_firstLine, ch_adds, ch_files])), (cat, .inl (cI, 38000, .inl Z.ca))]) hD hS hA [7, 8, 9, 10] rfl
          refine va_calli (va_runV (As := [.int (nI (S.FC pp + j))]) (rest := []) ⟨hx, hb, hml, hown, hts⟩ (m_St_isNaming l dC dI cI cB cL cZ cR sk b_y ch cat (sk_from) (sk_firstDependency) (.ref fcA) (sk_dependencies) (sk_hashes) (sk_byHash) (sk_leansOn) (sk_leantBy) (sk_lines) (sk_patches) (ch_patch) (.ref cfA) (ch_firstLine) (ch_adds) (ch_files) S.f Z.ca (S.FC pp + j) (S.CA (S.FC pp + j)) H.size (by omega) hga (by omega) (fun e9 => by have := hcw.2.1 e9; rw [show nmAt S.f (S.CA (S.FC pp + j)) = (S.CA (S.FC pp + j)) + 6 + 4 * b8 (S.f ((S.CA (S.FC pp + j)) + 5)) from if_neg (by rw [e9]; decide)]; omega)) (cwV 1 hts (xg_V gw_1011 gw_894 gw_895 gw_3 gw_896) rfl rfl rfl (by decide +kernel) ⟨Nat.le_of_ble_eq_true rfl, Nat.le_of_ble_eq_true rfl⟩) ⟨xw_blind, va_recv hK hPc (ci := 9) (q0 := 0) rfl rfl, fun U hU hW => ⟨rfl, by rw [hU], by rw [hU]; exact hPc, va_K.moved hW.alike hK, hDc.weaken (fun _ _ _ _ => trivial)⟩⟩ rfl rfl hl.1 rfl (lv_room (Nat.le_of_ble_eq_true rfl)) d_Vw_gather_79 ⟨Nat.le_of_ble_eq_true rfl, Nat.le_of_ble_eq_true rfl⟩) hS (fun q _ h => hFc q h) hFc (fun r9 u t H1 locs ht hvm hw hB hz1 hk1 hS => ?_)
          obtain ⟨hP1, hK1, hD1⟩ := hB
          rw [ht] at hP1
          obtain ⟨hP, hD⟩ := va_join (wr := [(h, .inr (11, [.ref vfA, .ref voA, .ref vnA, .int (nI (flN S FL pp j + 1)), .int (nI (nmN S mw NM pp j)), .ref sk, .ref ch, vw_loaded, vw_version, .ref ovA, .int (nI rd), vw_heads, vw_nexts, vw_sharing])), (fcA, .inl (cI, 502, .inl Z.fc)), (cfA, .inl (cI, 38000, .inl Z.cf)), (ovA, .inl (cI, 38000, .inl ov)), (vfA, .inl (cI, 200, .inl (upd vfu (flN S FL pp j) (nI (S.CF (S.FC pp + j)))))), (voA, .inl (cI, 200, .inl vou)), (vnA, .inl (cI, 16800, .inl vnu))]) (w1 := [(sk, .inr (9, [.ref b_y, sk_from, sk_firstDependency, .ref fcA, sk_dependencies, sk_hashes, sk_byHash, sk_leansOn, sk_leantBy, .ref ch, sk_lines, sk_patches])), (b_y, .inl (cB, 290000, .inl S.f)), (ch, .inr (1, [.ref cat, ch_patch, .ref cfA, ch_firstLine, ch_adds, ch_files])), (cat, .inl (cI, 38000, .inl Z.ca))]) hP hD [7, 8, 9, 10] [0, 1, 2, 3, 4, 5, 6] rfl rfl (by decide) (by decide) hk1 hFc hP1 hD1
          generalize H1 = H at hP hS ⊢
          have hP : va_P (dC, dI) classes [(h, .inr (11, [.ref vfA, .ref voA, .ref vnA, .int (nI (flN S FL pp j + 1)), .int (nI (nmN S mw NM pp j)), .ref sk, .ref ch, vw_loaded, vw_version, .ref ovA, .int (nI rd), vw_heads, vw_nexts, vw_sharing])), (fcA, .inl (cI, 502, .inl Z.fc)), (cfA, .inl (cI, 38000, .inl Z.cf)), (ovA, .inl (cI, 38000, .inl ov)), (vfA, .inl (cI, 200, .inl (upd vfu (flN S FL pp j) (nI (S.CF (S.FC pp + j)))))), (voA, .inl (cI, 200, .inl vou)), (vnA, .inl (cI, 16800, .inl vnu)), (sk, .inr (9, [.ref b_y, sk_from, sk_firstDependency, .ref fcA, sk_dependencies, sk_hashes, sk_byHash, sk_leansOn, sk_leantBy, .ref ch, sk_lines, sk_patches])), (b_y, .inl (cB, 290000, .inl S.f)), (ch, .inr (1, [.ref cat, ch_patch, .ref cfA, ch_firstLine, ch_adds, ch_files])), (cat, .inl (cI, 38000, .inl Z.ca))] H := hP
          have hD : va_D A [(h, .inr (11, [.ref vfA, .ref voA, .ref vnA, .int (nI (flN S FL pp j + 1)), .int (nI (nmN S mw NM pp j)), .ref sk, .ref ch, vw_loaded, vw_version, .ref ovA, .int (nI rd), vw_heads, vw_nexts, vw_sharing])), (fcA, .inl (cI, 502, .inl Z.fc)), (cfA, .inl (cI, 38000, .inl Z.cf)), (ovA, .inl (cI, 38000, .inl ov)), (vfA, .inl (cI, 200, .inl (upd vfu (flN S FL pp j) (nI (S.CF (S.FC pp + j)))))), (voA, .inl (cI, 200, .inl vou)), (vnA, .inl (cI, 16800, .inl vnu)), (sk, .inr (9, [.ref b_y, sk_from, sk_firstDependency, .ref fcA, sk_dependencies, sk_hashes, sk_byHash, sk_leansOn, sk_leantBy, .ref ch, sk_lines, sk_patches])), (b_y, .inl (cB, 290000, .inl S.f)), (ch, .inr (1, [.ref cat, ch_patch, .ref cfA, ch_firstLine, ch_adds, ch_files])), (cat, .inl (cI, 38000, .inl Z.ca))] := hD
          rcases hw with ⟨rfl, hisn⟩ | ⟨rfl, hisn⟩
          · have hP : va_P (dC, dI) classes [(h, .inr (11, [.ref vfA, .ref voA, .ref vnA, .int (nI (flN S FL pp j + 1)), .int (nI (nmN S mw NM pp j)), .ref sk, .ref ch, vw_loaded, vw_version, .ref ovA, .int (nI rd), vw_heads, vw_nexts, vw_sharing])), (fcA, .inl (cI, 502, .inl Z.fc)), (cfA, .inl (cI, 38000, .inl Z.cf)), (ovA, .inl (cI, 38000, .inl ov)), (vfA, .inl (cI, 200, .inl (upd vfu (flN S FL pp j) (nI (S.CF (S.FC pp + j)))))), (voA, .inl (cI, 200, .inl vou)), (vnA, .inl (cI, 16800, .inl vnu)), (sk, .inr (9, [.ref b_y, sk_from, sk_firstDependency, .ref fcA, sk_dependencies, sk_hashes, sk_byHash, sk_leansOn, sk_leantBy, .ref ch, sk_lines, sk_patches])), (b_y, .inl (cB, 290000, .inl S.f)), (ch, .inr (1, [.ref cat, ch_patch, .ref cfA, ch_firstLine, ch_adds, ch_files])), (cat, .inl (cI, 38000, .inl Z.ca))] H := hP
            have hD : va_D A [(h, .inr (11, [.ref vfA, .ref voA, .ref vnA, .int (nI (flN S FL pp j + 1)), .int (nI (nmN S mw NM pp j)), .ref sk, .ref ch, vw_loaded, vw_version, .ref ovA, .int (nI rd), vw_heads, vw_nexts, vw_sharing])), (fcA, .inl (cI, 502, .inl Z.fc)), (cfA, .inl (cI, 38000, .inl Z.cf)), (ovA, .inl (cI, 38000, .inl ov)), (vfA, .inl (cI, 200, .inl (upd vfu (flN S FL pp j) (nI (S.CF (S.FC pp + j)))))), (voA, .inl (cI, 200, .inl vou)), (vnA, .inl (cI, 16800, .inl vnu)), (sk, .inr (9, [.ref b_y, sk_from, sk_firstDependency, .ref fcA, sk_dependencies, sk_hashes, sk_byHash, sk_leansOn, sk_leantBy, .ref ch, sk_lines, sk_patches])), (b_y, .inl (cB, 290000, .inl S.f)), (ch, .inr (1, [.ref cat, ch_patch, .ref cfA, ch_firstLine, ch_adds, ch_files])), (cat, .inl (cI, 38000, .inl Z.ca))] := hD
            refine lv_if_eq (tgt := 146) hx hb d_Vw_gather_82 (by decide) (fun c_82 => absurd c_82 (by decide)) (fun _ => ?_)
            refine lv_aload_n hx hb d_Vw_gather_85 rfl (lv_at hl 0 rfl) ?_
            refine va_get (D := (dC, dI)) (ci := 11) (v := .ref ovA) (C := R_Vw) (T := F_Vw) (N := 14) hx hb hts i_Vw hown hK hP 0 rfl rfl 9 (by decide) (hts _ gw_334) (fun _ h9 => h9) rfl d_Vw_gather_86 ?_
            refine lv_iload_n hx hb d_Vw_gather_89 rfl (lv_at hl 2 rfl) ?_
            refine va_iald hx hb hK hP 3 0 rfl rfl (vp_in_nI (by omega) (by omega)) d_Vw_gather_90 ?_
            rw [show (nI (S.FC pp + j)).toNatClampNeg = (S.FC pp + j) from nI_clamp (by omega)]
            refine lv_aload_n hx hb d_Vw_gather_91 rfl (lv_at hl 0 rfl) ?_
            refine va_get (D := (dC, dI)) (ci := 11) (v := .int (nI rd)) (C := R_Vw) (T := F_Vw) (N := 14) hx hb hts i_Vw hown hK hP 0 rfl rfl 10 (by decide) (hts _ gw_335) (fun _ h9 => h9) rfl d_Vw_gather_92 ?_
            refine lv_icmp_eq (tgt := 146) hx hb d_Vw_gather_95 (by decide) (fun c_95 => ?_) (fun c_95 => ?_)
            · refine lv_iinc (v := nI (S.FC pp + j + 1)) (lv' := [(2, .int (nI (S.FC pp + j + 1))), (0, .ref h), (1, .int (nI pp))]) hx hb d_Vw_gather_146 hl (k := 2) rfl (by exact nI_add _ _) (by decide) rfl (fun ls hl => ?_)
              refine lv_goto (tgt := 10) hx hb d_Vw_gather_149 (by decide) ?_
              have hflj : flj S FL pp (j + 1) = flj S FL pp j ++ [(S.CF (S.FC pp + j))] := (flj_yes c_33)
              have hnmj : nmj S mw NM pp (j + 1) = (nmj S mw NM pp j) := (nmj_no (thB_no2 ((hov (S.FC pp + j) (by omega)).mp c_95)))
              have hfN : flN S FL pp j + 1 = flN S FL pp (j + 1) := by unfold flN; rw [hflj]; rw [List.length_append]; rfl
              have hnN : nmN S mw NM pp j = nmN S mw NM pp (j + 1) := by unfold nmN; rw [hnmj]
              rw [show nI ((flN S FL pp j) + 1) = nI (flN S FL pp (j + 1)) from congrArg nI hfN, show nI (nmN S mw NM pp j) = nI (nmN S mw NM pp (j + 1)) from congrArg nI hnN] at hP hD
              exact ih_10 (j + 1) (upd vfu (flN S FL pp j) (nI (S.CF (S.FC pp + j)))) vou vnu _ _ _ (by omega) (by omega) (by rw [hflj]; exact ha1.push _) (by rw [hnmj]; exact ha3) (by rw [hnmj]; exact ha2) (hP.sub [0, 7, 8, 1, 9, 10, 2, 3, 4, 5, 6] rfl) (hD.sub [0, 7, 8, 1, 9, 10, 2, 3, 4, 5, 6] (by decide) rfl) hS (lv_sub hl [1, 2, 0] rfl)
            · refine lv_aload_n hx hb d_Vw_gather_98 rfl (lv_at hl 0 rfl) ?_
              refine va_get (D := (dC, dI)) (ci := 11) (v := .int (nI (nmN S mw NM pp j))) (C := R_Vw) (T := F_Vw) (N := 14) hx hb hts i_Vw hown hK hP 0 rfl rfl 4 (by decide) (hts _ gw_328) (fun _ h9 => h9) rfl d_Vw_gather_99 ?_
              refine lv_sipush (v := 16800) hx hb d_Vw_gather_102 (by decide) ?_
              refine lv_icmp_ge (tgt := 146) hx hb d_Vw_gather_105 (by decide) (fun c_105 => absurd c_105 (fun z => absurd ((nI_leI (a := 16800) (b := nmN S mw NM pp j) (by omega) (by omega)).mp z) (by omega))) (fun _ => ?_)
              refine lv_aload_n hx hb d_Vw_gather_108 rfl (lv_at hl 0 rfl) ?_
              refine va_get (D := (dC, dI)) (ci := 11) (v := .ref vnA) (C := R_Vw) (T := F_Vw) (N := 14) hx hb hts i_Vw hown hK hP 0 rfl rfl 2 (by decide) (hts _ gw_324) (fun _ h9 => h9) rfl d_Vw_gather_109 ?_
              refine lv_aload_n hx hb d_Vw_gather_112 rfl (lv_at hl 0 rfl) ?_
              refine va_get (D := (dC, dI)) (ci := 11) (v := .int (nI (nmN S mw NM pp j))) (C := R_Vw) (T := F_Vw) (N := 14) hx hb hts i_Vw hown hK hP 0 rfl rfl 4 (by decide) (hts _ gw_328) (fun _ h9 => h9) rfl d_Vw_gather_113 ?_
              refine lv_iload_n hx hb d_Vw_gather_116 rfl (lv_at hl 2 rfl) ?_
              refine va_iast hx hb hK hP hD hS 6 0 rfl rfl (vp_in_nI (by omega) (by omega)) d_Vw_gather_117 (fun H locs hP hD hS => ?_)
              rw [show (nI (nmN S mw NM pp j)).toNatClampNeg = (nmN S mw NM pp j) from nI_clamp (by omega)] at hP hD
              have hP : va_P (dC, dI) classes [(h, .inr (11, [.ref vfA, .ref voA, .ref vnA, .int (nI (flN S FL pp j + 1)), .int (nI (nmN S mw NM pp j)), .ref sk, .ref ch, vw_loaded, vw_version, .ref ovA, .int (nI rd), vw_heads, vw_nexts, vw_sharing])), (fcA, .inl (cI, 502, .inl Z.fc)), (cfA, .inl (cI, 38000, .inl Z.cf)), (ovA, .inl (cI, 38000, .inl ov)), (vfA, .inl (cI, 200, .inl (upd vfu (flN S FL pp j) (nI (S.CF (S.FC pp + j)))))), (voA, .inl (cI, 200, .inl vou)), (vnA, .inl (cI, 16800, .inl (upd vnu (nmN S mw NM pp j) (nI (S.FC pp + j))))), (sk, .inr (9, [.ref b_y, sk_from, sk_firstDependency, .ref fcA, sk_dependencies, sk_hashes, sk_byHash, sk_leansOn, sk_leantBy, .ref ch, sk_lines, sk_patches])), (b_y, .inl (cB, 290000, .inl S.f)), (ch, .inr (1, [.ref cat, ch_patch, .ref cfA, ch_firstLine, ch_adds, ch_files])), (cat, .inl (cI, 38000, .inl Z.ca))] H := hP
              have hD : va_D A [(h, .inr (11, [.ref vfA, .ref voA, .ref vnA, .int (nI (flN S FL pp j + 1)), .int (nI (nmN S mw NM pp j)), .ref sk, .ref ch, vw_loaded, vw_version, .ref ovA, .int (nI rd), vw_heads, vw_nexts, vw_sharing])), (fcA, .inl (cI, 502, .inl Z.fc)), (cfA, .inl (cI, 38000, .inl Z.cf)), (ovA, .inl (cI, 38000, .inl ov)), (vfA, .inl (cI, 200, .inl (upd vfu (flN S FL pp j) (nI (S.CF (S.FC pp + j)))))), (voA, .inl (cI, 200, .inl vou)), (vnA, .inl (cI, 16800, .inl (upd vnu (nmN S mw NM pp j) (nI (S.FC pp + j))))), (sk, .inr (9, [.ref b_y, sk_from, sk_firstDependency, .ref fcA, sk_dependencies, sk_hashes, sk_byHash, sk_leansOn, sk_leantBy, .ref ch, sk_lines, sk_patches])), (b_y, .inl (cB, 290000, .inl S.f)), (ch, .inr (1, [.ref cat, ch_patch, .ref cfA, ch_firstLine, ch_adds, ch_files])), (cat, .inl (cI, 38000, .inl Z.ca))] := hD
              refine lv_aload_n hx hb d_Vw_gather_118 rfl (lv_at hl 0 rfl) ?_
              refine lv_dup hx hb d_Vw_gather_119 rfl ?_
              refine va_get (D := (dC, dI)) (ci := 11) (v := .int (nI (nmN S mw NM pp j))) (C := R_Vw) (T := F_Vw) (N := 14) hx hb hts i_Vw hown hK hP 0 rfl rfl 4 (by decide) (hts _ gw_328) (fun _ h9 => h9) rfl d_Vw_gather_120 ?_
              refine lv_iconst (v := 1) hx hb d_Vw_gather_123 (by decide) ?_
              refine lv_iadd hx hb d_Vw_gather_124 ?_
              refine lv_topi (fun x_10 ex_10 => ?_)
              obtain rfl : x_10 = nI (nmN S mw NM pp j + 1) := by rw [ex_10]; first | done | (exact nI_add _ _)
              refine va_put (D := (dC, dI)) (ci := 11) (v := .int (nI (nmN S mw NM pp j + 1))) (ty := .int) (C := R_Vw) (T := F_Vw) (N := 14) hx hb hts i_Vw t_Vw t_Vw_ok n_Vw hown hK hP hD hS 0 rfl rfl 4 (by decide) (hts _ gw_328) (fun _ h9 => h9) rfl (by decide +kernel) rfl rfl (Nat.le_of_ble_eq_true rfl) d_Vw_gather_125 (fun H locs hP hD hS => ?_)
              have hP : va_P (dC, dI) classes [(h, .inr (11, [.ref vfA, .ref voA, .ref vnA, .int (nI (flN S FL pp j + 1)), .int (nI (nmN S mw NM pp j + 1)), .ref sk, .ref ch, vw_loaded, vw_version, .ref ovA, .int (nI rd), vw_heads, vw_nexts, vw_sharing])), (fcA, .inl (cI, 502, .inl Z.fc)), (cfA, .inl (cI, 38000, .inl Z.cf)), (ovA, .inl (cI, 38000, .inl ov)), (vfA, .inl (cI, 200, .inl (upd vfu (flN S FL pp j) (nI (S.CF (S.FC pp + j)))))), (voA, .inl (cI, 200, .inl vou)), (vnA, .inl (cI, 16800, .inl (upd vnu (nmN S mw NM pp j) (nI (S.FC pp + j))))), (sk, .inr (9, [.ref b_y, sk_from, sk_firstDependency, .ref fcA, sk_dependencies, sk_hashes, sk_byHash, sk_leansOn, sk_leantBy, .ref ch, sk_lines, sk_patches])), (b_y, .inl (cB, 290000, .inl S.f)), (ch, .inr (1, [.ref cat, ch_patch, .ref cfA, ch_firstLine, ch_adds, ch_files])), (cat, .inl (cI, 38000, .inl Z.ca))] H := hP
              have hD : va_D A [(h, .inr (11, [.ref vfA, .ref voA, .ref vnA, .int (nI (flN S FL pp j + 1)), .int (nI (nmN S mw NM pp j + 1)), .ref sk, .ref ch, vw_loaded, vw_version, .ref ovA, .int (nI rd), vw_heads, vw_nexts, vw_sharing])), (fcA, .inl (cI, 502, .inl Z.fc)), (cfA, .inl (cI, 38000, .inl Z.cf)), (ovA, .inl (cI, 38000, .inl ov)), (vfA, .inl (cI, 200, .inl (upd vfu (flN S FL pp j) (nI (S.CF (S.FC pp + j)))))), (voA, .inl (cI, 200, .inl vou)), (vnA, .inl (cI, 16800, .inl (upd vnu (nmN S mw NM pp j) (nI (S.FC pp + j))))), (sk, .inr (9, [.ref b_y, sk_from, sk_firstDependency, .ref fcA, sk_dependencies, sk_hashes, sk_byHash, sk_leansOn, sk_leantBy, .ref ch, sk_lines, sk_patches])), (b_y, .inl (cB, 290000, .inl S.f)), (ch, .inr (1, [.ref cat, ch_patch, .ref cfA, ch_firstLine, ch_adds, ch_files])), (cat, .inl (cI, 38000, .inl Z.ca))] := hD
              refine lv_aload_n hx hb d_Vw_gather_128 rfl (lv_at hl 0 rfl) ?_
              refine va_get (D := (dC, dI)) (ci := 11) (v := .ref voA) (C := R_Vw) (T := F_Vw) (N := 14) hx hb hts i_Vw hown hK hP 0 rfl rfl 1 (by decide) (hts _ gw_321) (fun _ h9 => h9) rfl d_Vw_gather_129 ?_
              refine lv_aload_n hx hb d_Vw_gather_132 rfl (lv_at hl 0 rfl) ?_
              refine va_get (D := (dC, dI)) (ci := 11) (v := .ref ch) (C := R_Vw) (T := F_Vw) (N := 14) hx hb hts i_Vw hown hK hP 0 rfl rfl 6 (by decide) (hts _ gw_331) (fun _ h9 => h9) rfl d_Vw_gather_133 ?_
              refine va_get (D := (dC, dI)) (ci := 1) (v := .ref cfA) (C := R_Ch) (T := F_Ch) (N := 6) hx hb hts i_Ch hown hK hP 9 rfl rfl 2 (by decide) (hts _ gw_100) (fun _ h9 => h9) rfl d_Vw_gather_136 ?_
              refine lv_iload_n hx hb d_Vw_gather_139 rfl (lv_at hl 2 rfl) ?_
              refine va_iald hx hb hK hP 2 0 rfl rfl (vp_in_nI (by omega) (by omega)) d_Vw_gather_140 ?_
              rw [show (nI (S.FC pp + j)).toNatClampNeg = (S.FC pp + j) from nI_clamp (by omega)]
              refine lv_topi (fun x_11 ex_11 => ?_)
              obtain rfl : x_11 = nI (S.CF (S.FC pp + j)) := by rw [ex_11]; first | done | (exact R.cf (S.FC pp + j) (by omega))
              refine lv_dup2_11 hx hb d_Vw_gather_141 rfl rfl ?_
              refine va_iald hx hb hK hP 5 0 rfl rfl (vp_in_nI (by omega) (by omega)) d_Vw_gather_142 ?_
              rw [show (nI (S.CF (S.FC pp + j))).toNatClampNeg = (S.CF (S.FC pp + j)) from nI_clamp (by omega)]
              refine lv_topi (fun x_12 ex_12 => ?_)
              obtain rfl : x_12 = nI (nOf S (S.CF (S.FC pp + j)) (nmj S mw NM pp j)) := by rw [ex_12]; first | done | (exact ha3 _ (by omega))
              refine lv_iconst (v := 1) hx hb d_Vw_gather_143 (by decide) ?_
              refine lv_iadd hx hb d_Vw_gather_144 ?_
              refine lv_topi (fun x_13 ex_13 => ?_)
              obtain rfl : x_13 = nI ((nOf S (S.CF (S.FC pp + j)) (nmj S mw NM pp j)) + 1) := by rw [ex_13]; first | done | (exact nI_add _ _)
              refine va_iast hx hb hK hP hD hS 5 0 rfl rfl (vp_in_nI (by omega) (by omega)) d_Vw_gather_145 (fun H locs hP hD hS => ?_)
              rw [show (nI (S.CF (S.FC pp + j))).toNatClampNeg = (S.CF (S.FC pp + j)) from nI_clamp (by omega)] at hP hD
              have hP : va_P (dC, dI) classes [(h, .inr (11, [.ref vfA, .ref voA, .ref vnA, .int (nI (flN S FL pp j + 1)), .int (nI (nmN S mw NM pp j + 1)), .ref sk, .ref ch, vw_loaded, vw_version, .ref ovA, .int (nI rd), vw_heads, vw_nexts, vw_sharing])), (fcA, .inl (cI, 502, .inl Z.fc)), (cfA, .inl (cI, 38000, .inl Z.cf)), (ovA, .inl (cI, 38000, .inl ov)), (vfA, .inl (cI, 200, .inl (upd vfu (flN S FL pp j) (nI (S.CF (S.FC pp + j)))))), (voA, .inl (cI, 200, .inl (upd vou (S.CF (S.FC pp + j)) (nI ((nOf S (S.CF (S.FC pp + j)) (nmj S mw NM pp j)) + 1))))), (vnA, .inl (cI, 16800, .inl (upd vnu (nmN S mw NM pp j) (nI (S.FC pp + j))))), (sk, .inr (9, [.ref b_y, sk_from, sk_firstDependency, .ref fcA, sk_dependencies, sk_hashes, sk_byHash, sk_leansOn, sk_leantBy, .ref ch, sk_lines, sk_patches])), (b_y, .inl (cB, 290000, .inl S.f)), (ch, .inr (1, [.ref cat, ch_patch, .ref cfA, ch_firstLine, ch_adds, ch_files])), (cat, .inl (cI, 38000, .inl Z.ca))] H := hP
              have hD : va_D A [(h, .inr (11, [.ref vfA, .ref voA, .ref vnA, .int (nI (flN S FL pp j + 1)), .int (nI (nmN S mw NM pp j + 1)), .ref sk, .ref ch, vw_loaded, vw_version, .ref ovA, .int (nI rd), vw_heads, vw_nexts, vw_sharing])), (fcA, .inl (cI, 502, .inl Z.fc)), (cfA, .inl (cI, 38000, .inl Z.cf)), (ovA, .inl (cI, 38000, .inl ov)), (vfA, .inl (cI, 200, .inl (upd vfu (flN S FL pp j) (nI (S.CF (S.FC pp + j)))))), (voA, .inl (cI, 200, .inl (upd vou (S.CF (S.FC pp + j)) (nI ((nOf S (S.CF (S.FC pp + j)) (nmj S mw NM pp j)) + 1))))), (vnA, .inl (cI, 16800, .inl (upd vnu (nmN S mw NM pp j) (nI (S.FC pp + j))))), (sk, .inr (9, [.ref b_y, sk_from, sk_firstDependency, .ref fcA, sk_dependencies, sk_hashes, sk_byHash, sk_leansOn, sk_leantBy, .ref ch, sk_lines, sk_patches])), (b_y, .inl (cB, 290000, .inl S.f)), (ch, .inr (1, [.ref cat, ch_patch, .ref cfA, ch_firstLine, ch_adds, ch_files])), (cat, .inl (cI, 38000, .inl Z.ca))] := hD
              refine lv_iinc (v := nI (S.FC pp + j + 1)) (lv' := [(2, .int (nI (S.FC pp + j + 1))), (0, .ref h), (1, .int (nI pp))]) hx hb d_Vw_gather_146 hl (k := 2) rfl (by exact nI_add _ _) (by decide) rfl (fun ls hl => ?_)
              refine lv_goto (tgt := 10) hx hb d_Vw_gather_149 (by decide) ?_
              have hflj : flj S FL pp (j + 1) = flj S FL pp j ++ [(S.CF (S.FC pp + j))] := (flj_yes c_33)
              have hnmj : nmj S mw NM pp (j + 1) = (nmj S mw NM pp j) ++ [(S.FC pp + j)] := (nmj_yes (thB_yes hisn (fun z => c_95 ((hov (S.FC pp + j) (by omega)).mpr z))))
              have hfN : flN S FL pp j + 1 = flN S FL pp (j + 1) := by unfold flN; rw [hflj]; rw [List.length_append]; rfl
              have hnN : nmN S mw NM pp j + 1 = nmN S mw NM pp (j + 1) := by unfold nmN; rw [hnmj]; rw [List.length_append]; rfl
              rw [show nI ((flN S FL pp j) + 1) = nI (flN S FL pp (j + 1)) from congrArg nI hfN, show nI ((nmN S mw NM pp j) + 1) = nI (nmN S mw NM pp (j + 1)) from congrArg nI hnN] at hP hD
              exact ih_10 (j + 1) (upd vfu (flN S FL pp j) (nI (S.CF (S.FC pp + j)))) (upd vou (S.CF (S.FC pp + j)) (nI ((nOf S (S.CF (S.FC pp + j)) (nmj S mw NM pp j)) + 1))) (upd vnu (nmN S mw NM pp j) (nI (S.FC pp + j))) _ _ _ (by omega) (by omega) (by rw [hflj]; exact ha1.push _) (by rw [hnmj]; exact nOf_up ha3) (by rw [hnmj]; exact ha2.push _) (hP.sub [0, 7, 8, 1, 9, 10, 2, 3, 4, 5, 6] rfl) (hD.sub [0, 7, 8, 1, 9, 10, 2, 3, 4, 5, 6] (by decide) rfl) hS (lv_sub hl [1, 2, 0] rfl)
          · have hP : va_P (dC, dI) classes [(h, .inr (11, [.ref vfA, .ref voA, .ref vnA, .int (nI (flN S FL pp j + 1)), .int (nI (nmN S mw NM pp j)), .ref sk, .ref ch, vw_loaded, vw_version, .ref ovA, .int (nI rd), vw_heads, vw_nexts, vw_sharing])), (fcA, .inl (cI, 502, .inl Z.fc)), (cfA, .inl (cI, 38000, .inl Z.cf)), (ovA, .inl (cI, 38000, .inl ov)), (vfA, .inl (cI, 200, .inl (upd vfu (flN S FL pp j) (nI (S.CF (S.FC pp + j)))))), (voA, .inl (cI, 200, .inl vou)), (vnA, .inl (cI, 16800, .inl vnu)), (sk, .inr (9, [.ref b_y, sk_from, sk_firstDependency, .ref fcA, sk_dependencies, sk_hashes, sk_byHash, sk_leansOn, sk_leantBy, .ref ch, sk_lines, sk_patches])), (b_y, .inl (cB, 290000, .inl S.f)), (ch, .inr (1, [.ref cat, ch_patch, .ref cfA, ch_firstLine, ch_adds, ch_files])), (cat, .inl (cI, 38000, .inl Z.ca))] H := hP
            have hD : va_D A [(h, .inr (11, [.ref vfA, .ref voA, .ref vnA, .int (nI (flN S FL pp j + 1)), .int (nI (nmN S mw NM pp j)), .ref sk, .ref ch, vw_loaded, vw_version, .ref ovA, .int (nI rd), vw_heads, vw_nexts, vw_sharing])), (fcA, .inl (cI, 502, .inl Z.fc)), (cfA, .inl (cI, 38000, .inl Z.cf)), (ovA, .inl (cI, 38000, .inl ov)), (vfA, .inl (cI, 200, .inl (upd vfu (flN S FL pp j) (nI (S.CF (S.FC pp + j)))))), (voA, .inl (cI, 200, .inl vou)), (vnA, .inl (cI, 16800, .inl vnu)), (sk, .inr (9, [.ref b_y, sk_from, sk_firstDependency, .ref fcA, sk_dependencies, sk_hashes, sk_byHash, sk_leansOn, sk_leantBy, .ref ch, sk_lines, sk_patches])), (b_y, .inl (cB, 290000, .inl S.f)), (ch, .inr (1, [.ref cat, ch_patch, .ref cfA, ch_firstLine, ch_adds, ch_files])), (cat, .inl (cI, 38000, .inl Z.ca))] := hD
            refine lv_if_eq (tgt := 146) hx hb d_Vw_gather_82 (by decide) (fun _ => ?_) (fun c_82 => absurd (by decide) c_82)
            refine lv_iinc (v := nI (S.FC pp + j + 1)) (lv' := [(2, .int (nI (S.FC pp + j + 1))), (0, .ref h), (1, .int (nI pp))]) hx hb d_Vw_gather_146 hl (k := 2) rfl (by exact nI_add _ _) (by decide) rfl (fun ls hl => ?_)
            refine lv_goto (tgt := 10) hx hb d_Vw_gather_149 (by decide) ?_
            have hflj : flj S FL pp (j + 1) = flj S FL pp j ++ [(S.CF (S.FC pp + j))] := (flj_yes c_33)
            have hnmj : nmj S mw NM pp (j + 1) = (nmj S mw NM pp j) := (nmj_no (thB_no1 hisn))
            have hfN : flN S FL pp j + 1 = flN S FL pp (j + 1) := by unfold flN; rw [hflj]; rw [List.length_append]; rfl
            have hnN : nmN S mw NM pp j = nmN S mw NM pp (j + 1) := by unfold nmN; rw [hnmj]
            rw [show nI ((flN S FL pp j) + 1) = nI (flN S FL pp (j + 1)) from congrArg nI hfN, show nI (nmN S mw NM pp j) = nI (nmN S mw NM pp (j + 1)) from congrArg nI hnN] at hP hD
            exact ih_10 (j + 1) (upd vfu (flN S FL pp j) (nI (S.CF (S.FC pp + j)))) vou vnu _ _ _ (by omega) (by omega) (by rw [hflj]; exact ha1.push _) (by rw [hnmj]; exact ha3) (by rw [hnmj]; exact ha2) (hP.sub [0, 7, 8, 1, 9, 10, 2, 3, 4, 5, 6] rfl) (hD.sub [0, 7, 8, 1, 9, 10, 2, 3, 4, 5, 6] (by decide) rfl) hS (lv_sub hl [1, 2, 0] rfl)
  exact loop_10 _ 0 vf vo vn _ _ _ (Nat.lt_succ_self _) (Nat.zero_le _) (by rw [flj_0]; exact hA1) (by rw [nmj_0]; exact hA3) (by rw [nmj_0]; exact hA2) hP hD hS (lv_sub hl [1, 2, 0] rfl)
end
section
/-! 91.nameless.lean.txt -/
/-- those of the first i that are so -/
def ftk (g : Nat → Bool) (L : List Nat) (i : Nat) : List Nat := (L.take i).filter g
theorem ftk_step (g : Nat → Bool) {L : List Nat} {i : Nat} (h : i < L.length) : ftk g L (i + 1) = ftk g L i ++ (if g (L.getD i 0) = true then [L.getD i 0] else []) := by
  unfold ftk
  have e : L.getD i 0 = L[i] := by
    rw [List.getD_eq_getElem?_getD, List.getElem?_eq_getElem h]; rfl
  rw [List.take_succ_eq_append_getElem h, List.filter_append, e]
  congr 1
  by_cases z : g L[i] = true
  · rw [if_pos z, List.filter_cons_of_pos z]; rfl
  · rw [if_neg z, List.filter_cons_of_neg z]; rfl
theorem ftk_le (g : Nat → Bool) (L : List Nat) (i : Nat) : (ftk g L i).length ≤ i := Nat.le_trans (List.length_filter_le _ _) (by rw [List.length_take]; exact Nat.min_le_left _ _)
theorem ftk_all (g : Nat → Bool) (L : List Nat) : ftk g L L.length = L.filter g := by
  unfold ftk
  rw [List.take_length]
def ftN (g : Nat → Bool) (L : List Nat) (i : Nat) : Nat := (ftk g L i).length
theorem ftN_yes {g : Nat → Bool} {L : List Nat} {i : Nat} (h : i < L.length) (hg : g (L.getD i 0) = true) : ftN g L i + 1 = ftN g L (i + 1) := by
  unfold ftN
  rw [ftk_step g h, if_pos hg, List.length_append]; rfl
theorem ftN_no {g : Nat → Bool} {L : List Nat} {i : Nat} (h : i < L.length) (hg : ¬ g (L.getD i 0) = true) : ftN g L i = ftN g L (i + 1) := by
  unfold ftN
  rw [ftk_step g h, if_neg hg, List.append_nil]
theorem ftk_yes {g : Nat → Bool} {L : List Nat} {i : Nat} {A : Nat → Int32} (h : i < L.length) (hg : g (L.getD i 0) = true) (ha : arrL A (ftk g L i)) : arrL (upd A (ftN g L i) (nI (L.getD i 0))) (ftk g L (i + 1)) := by
  rw [ftk_step g h, if_pos hg]
  exact ha.push _
theorem ftk_no {g : Nat → Bool} {L : List Nat} {i : Nat} {A : Nat → Int32} (h : i < L.length) (hg : ¬ g (L.getD i 0) = true) (ha : arrL A (ftk g L i)) : arrL A (ftk g L (i + 1)) := by
  rw [ftk_step g h, if_neg hg, List.append_nil]
  exact ha
theorem getD_mem {L : List Nat} {i : Nat} (h : i < L.length) : L.getD i 0 ∈ L := by
  rw [List.getD_eq_getElem?_getD, List.getElem?_eq_getElem h]
  exact List.getElem_mem h
/-- the file has a naming -/
def hasN (S : Stk) (NM : List Nat) (y : Nat) : Bool := decide (0 < nOf S y NM)
theorem hasN_iff {S : Stk} {NM : List Nat} {y : Nat} : hasN S NM y = true ↔ 0 < nOf S y NM := decide_eq_true_iff
set_option maxHeartbeats 4000000 in
set_option maxRecDepth 100000 in
/-- the nameless files are left out -/
theorem m_Vw_leaveOut (l : Launch) (dC : Nat → ClassId) (dI : Nat → Nat → Nat) (cI cB cL cZ cR : ClassId) (h vfA voA : Nat) (vw_namings vw_namingTotal vw_stock vw_changes vw_loaded vw_version vw_over vw_round vw_heads vw_nexts vw_sharing : Value) (S : Stk) (vf vo : Nat → Int32) (FL NM : List Nat) (sz : Nat) (hA1 : arrL vf FL) (hA3 : ∀ y, y < 200 → vo y = nI (nOf S y NM)) (hFl : ∀ y, y ∈ FL → y < 200) (hF2 : FL.length ≤ 200) (hN2 : NM.length ≤ 16800) : Met l y_Vw_leaveOutNameless ws_Vw_leaveOutNameless ({ frames := 0, cells := 0, slots := 0, locals := 0 }) (xw_Pc dC dI [(cI, .int), (cB, .byte), (cL, .long), (cZ, .boolean), (cR, .object "PatchStore$Repository")] [.ref h] [(h, .inr (11, [.ref vfA, .ref voA, vw_namings, .int (nI FL.length), vw_namingTotal, vw_stock, vw_changes, vw_loaded, vw_version, vw_over, vw_round, vw_heads, vw_nexts, vw_sharing])), (vfA, .inl (cI, 200, .inl vf)), (voA, .inl (cI, 200, .inl vo))] sz) (va_Qv (fun u : Nat → Int32 => arrL u (FL.filter (hasN S NM))) (fun u t => xw_B dC dI [(cI, .int), (cB, .byte), (cL, .long), (cZ, .boolean), (cR, .object "PatchStore$Repository")] (va_A [(h, .inr (11, [.ref vfA, .ref voA, vw_namings, .int (nI FL.length), vw_namingTotal, vw_stock, vw_changes, vw_loaded, vw_version, vw_over, vw_round, vw_heads, vw_nexts, vw_sharing])), (vfA, .inl (cI, 200, .inl vf)), (voA, .inl (cI, 200, .inl vo))] sz) [(h, .inr (11, [.ref vfA, .ref voA, vw_namings, .int (nI (FL.filter (hasN S NM)).length), vw_namingTotal, vw_stock, vw_changes, vw_loaded, vw_version, vw_over, vw_round, vw_heads, vw_nexts, vw_sharing])), (vfA, .inl (cI, 200, .inl u)), (voA, .inl (cI, 200, .inl vo))] t) (va_A [(h, .inr (11, [.ref vfA, .ref voA, vw_namings, .int (nI FL.length), vw_namingTotal, vw_stock, vw_changes, vw_loaded, vw_version, vw_over, vw_round, vw_heads, vw_nexts, vw_sharing])), (vfA, .inl (cI, 200, .inl vf)), (voA, .inl (cI, 200, .inl vo))] sz)) 0 0 (va_A [(h, .inr (11, [.ref vfA, .ref voA, vw_namings, .int (nI FL.length), vw_namingTotal, vw_stock, vw_changes, vw_loaded, vw_version, vw_over, vw_round, vw_heads, vw_nexts, vw_sharing])), (vfA, .inl (cI, 200, .inl vf)), (voA, .inl (cI, 200, .inl vo))] sz) := by
  refine Met.ofW (cc := prog_12_method_5_code) (maxL := 3) (ret := none) (by decide) rfl ?_
  intro p e s m args below meth c s₁ B hml hv
  obtain ⟨rfl, hsz, hP, hK, hD0⟩ := hv
  have hx := B.exec
  have hb := B.bytes
  have hr := B.returns
  have hts0 := atoms_spec (ws := ws_Vw_leaveOutNameless) B.pre
  have hts : ∀ w ∈ xg_1, w.before _ s = true := fun w h => hts0 w (List.mem_cons_of_mem _ h)
  have hown : s.vm.findClass "PatchStore$View" = some m.cls := findClass_of_methodNamed B.named
  have hlocks := B.notSynchronized
  subst hsz
  have hD := hD0.self (sz := s.heap.size)
  generalize hAe : va_A [(h, .inr (11, [.ref vfA, .ref voA, vw_namings, .int (nI FL.length), vw_namingTotal, vw_stock, vw_changes, vw_loaded, vw_version, vw_over, vw_round, vw_heads, vw_nexts, vw_sharing])), (vfA, .inl (cI, 200, .inl vf)), (voA, .inl (cI, 200, .inl vo))] s.heap.size = A at hD ⊢
  have hA : ∀ q : Nat, s.heap.size ≤ q → A q := fun q h => by rw [← hAe]; exact Or.inr h
  have hS : va_S A s.heap s.heap [] := va_S.rf
  have hl := lv_entry ([.ref h]) (n := 3) (Nat.le_of_ble_eq_true rfl)
  rw [lg_entry_eq]
  generalize (lg_sl ([.ref h]) ++ List.replicate (3 - (lg_sl ([.ref h])).length) Slot.unset).toArray = ls at hl ⊢
  have hl : lv_has ls 3 [(0, .ref h)] := hl
  generalize hQe : MQ _ _ _ _ _ _ _ = Q
  refine lv_iconst (v := 0) hx hb d_Vw_leaveOutNameless_0 (by decide) ?_
  refine lv_istore_n (lv' := [(1, .int 0), (0, .ref h)]) hx hb d_Vw_leaveOutNameless_1 rfl hl (by decide) rfl (fun ls hl => ?_)
  refine lv_iconst (v := 0) hx hb d_Vw_leaveOutNameless_2 (by decide) ?_
  refine lv_istore_n (lv' := [(2, .int 0), (1, .int 0), (0, .ref h)]) hx hb d_Vw_leaveOutNameless_3 rfl hl (by decide) rfl (fun ls hl => ?_)
  have loop_4 : ∀ (n9 : Nat) (i : Nat) (vfu : Nat → Int32) (H : Heap) (locs : List Loc) (ls : Array Slot), FL.length - i < n9 → (i ≤ FL.length) → (arrL vfu (ftk (hasN S NM) FL i)) → (∀ q, i ≤ q → q < FL.length → vfu q = vf q) → va_P (dC, dI) classes [(h, .inr (11, [.ref vfA, .ref voA, vw_namings, .int (nI FL.length), vw_namingTotal, vw_stock, vw_changes, vw_loaded, vw_version, vw_over, vw_round, vw_heads, vw_nexts, vw_sharing])), (vfA, .inl (cI, 200, .inl vfu)), (voA, .inl (cI, 200, .inl vo))] H → va_D A [(h, .inr (11, [.ref vfA, .ref voA, vw_namings, .int (nI FL.length), vw_namingTotal, vw_stock, vw_changes, vw_loaded, vw_version, vw_over, vw_round, vw_heads, vw_nexts, vw_sharing])), (vfA, .inl (cI, 200, .inl vfu)), (voA, .inl (cI, 200, .inl vo))] → va_S A s.heap H locs → lv_has ls 3 [(0, .ref h), (1, .int (nI (ftN (hasN S NM) FL i))), (2, .int (nI i))] → W p l e (headSpec ws_Vw_leaveOutNameless ({ frames := 0, cells := 0, slots := 0, locals := 0 })).room s m ([.ref h] : List Value).toArray below meth c H locs 0 0 Q (F0 m 4 ls []) := by
    intro n9
    induction n9 with
    | zero => intro i vfu H locs ls hm; exact absurd hm (Nat.not_lt_zero _)
    | succ n9 ih_4 =>
      intro i vfu H locs ls hm hi ha1 ha2 hP hD hS hl
      have hfk : ftN (hasN S NM) FL i ≤ i := ftk_le _ _ _
      refine lv_iload_n hx hb d_Vw_leaveOutNameless_4 rfl (lv_at hl 2 rfl) ?_
      refine lv_aload_n hx hb d_Vw_leaveOutNameless_5 rfl (lv_at hl 0 rfl) ?_
      refine va_get (D := (dC, dI)) (ci := 11) (v := .int (nI FL.length)) (C := R_Vw) (T := F_Vw) (N := 14) hx hb hts i_Vw hown hK hP 0 rfl rfl 3 (by decide) (hts _ gw_326) (fun _ h9 => h9) rfl d_Vw_leaveOutNameless_6 ?_
      refine lv_icmp_ge (tgt := 47) hx hb d_Vw_leaveOutNameless_9 (by decide) (fun c_9 => ?_) (fun c_9 => ?_)
      · have n_9 : FL.length ≤ i := (nI_leI (a := FL.length) (b := i) (by omega) (by omega)).mp c_9
        refine lv_aload_n hx hb d_Vw_leaveOutNameless_47 rfl (lv_at hl 0 rfl) ?_
        refine lv_iload_n hx hb d_Vw_leaveOutNameless_48 rfl (lv_at hl 1 rfl) ?_
        refine va_put (D := (dC, dI)) (ci := 11) (v := .int (nI (ftN (hasN S NM) FL i))) (ty := .int) (C := R_Vw) (T := F_Vw) (N := 14) hx hb hts i_Vw t_Vw t_Vw_ok n_Vw hown hK hP hD hS 0 rfl rfl 3 (by decide) (hts _ gw_326) (fun _ h9 => h9) rfl (by decide +kernel) rfl rfl (Nat.le_of_ble_eq_true rfl) d_Vw_leaveOutNameless_49 (fun H locs hP hD hS => ?_)
        have hP : va_P (dC, dI) classes [(h, .inr (11, [.ref vfA, .ref voA, vw_namings, .int (nI (ftN (hasN S NM) FL i)), vw_namingTotal, vw_stock, vw_changes, vw_loaded, vw_version, vw_over, vw_round, vw_heads, vw_nexts, vw_sharing])), (vfA, .inl (cI, 200, .inl vfu)), (voA, .inl (cI, 200, .inl vo))] H := hP
        have hD : va_D A [(h, .inr (11, [.ref vfA, .ref voA, vw_namings, .int (nI (ftN (hasN S NM) FL i)), vw_namingTotal, vw_stock, vw_changes, vw_loaded, vw_version, vw_over, vw_round, vw_heads, vw_nexts, vw_sharing])), (vfA, .inl (cI, 200, .inl vfu)), (voA, .inl (cI, 200, .inl vo))] := hD
        have hiT : i = FL.length := by omega
        rw [hiT] at ha1 hP hD
        rw [ftk_all] at ha1
        rw [show ftN (hasN S NM) FL FL.length = (FL.filter (hasN S NM)).length from congrArg List.length (ftk_all _ _)] at hP hD
        rw [← hQe]
        exact W.vret hx hb hr (fun t ht hW => ⟨⟨vfu, rfl, ha1, by rw [ht]; exact hP, va_K.moved hW.alike hK, hD⟩, hS.F ht⟩) hS.2.2 d_Vw_leaveOutNameless_52
      · have n_9 : i < FL.length := Nat.lt_of_not_le (fun z => c_9 ((nI_leI (a := FL.length) (b := i) (by omega) (by omega)).mpr z))
        have hy2 := hFl _ (getD_mem n_9)
        have hno := nOf_le S (FL.getD i 0) NM
        refine lv_aload_n hx hb d_Vw_leaveOutNameless_12 rfl (lv_at hl 0 rfl) ?_
        refine va_get (D := (dC, dI)) (ci := 11) (v := .ref voA) (C := R_Vw) (T := F_Vw) (N := 14) hx hb hts i_Vw hown hK hP 0 rfl rfl 1 (by decide) (hts _ gw_321) (fun _ h9 => h9) rfl d_Vw_leaveOutNameless_13 ?_
        refine lv_aload_n hx hb d_Vw_leaveOutNameless_16 rfl (lv_at hl 0 rfl) ?_
        refine va_get (D := (dC, dI)) (ci := 11) (v := .ref vfA) (C := R_Vw) (T := F_Vw) (N := 14) hx hb hts i_Vw hown hK hP 0 rfl rfl 0 (by decide) (hts _ gw_319) (fun _ h9 => h9) rfl d_Vw_leaveOutNameless_17 ?_
        refine lv_iload_n hx hb d_Vw_leaveOutNameless_20 rfl (lv_at hl 2 rfl) ?_
        refine va_iald hx hb hK hP 1 0 rfl rfl (vp_in_nI (by omega) (by omega)) d_Vw_leaveOutNameless_21 ?_
        rw [show (nI i).toNatClampNeg = i from nI_clamp (by omega)]
        refine lv_topi (fun x_1 ex_1 => ?_)
        obtain rfl : x_1 = nI (FL.getD i 0) := by rw [ex_1]; first | done | (rw [ha2 i (Nat.le_refl _) n_9]; exact hA1 i n_9)
        refine va_iald hx hb hK hP 2 0 rfl rfl (vp_in_nI (by omega) (by omega)) d_Vw_leaveOutNameless_22 ?_
        rw [show (nI (FL.getD i 0)).toNatClampNeg = (FL.getD i 0) from nI_clamp (by omega)]
        refine lv_topi (fun x_2 ex_2 => ?_)
        obtain rfl : x_2 = nI (nOf S (FL.getD i 0) NM) := by rw [ex_2]; first | done | (exact hA3 _ (hFl _ (getD_mem n_9)))
        refine lv_if_le (tgt := 41) hx hb d_Vw_leaveOutNameless_23 (by decide) (fun c_23 => ?_) (fun c_23 => ?_)
        · have n_23 : (nOf S (FL.getD i 0) NM) ≤ 0 := (nI_leI (a := (nOf S (FL.getD i 0) NM)) (b := 0) (by omega) (by omega)).mp c_23
          have hgy : ¬ (hasN S NM) (FL.getD i 0) = true := fun z => absurd (hasN_iff.mp z) (by omega)
          rw [show nI (ftN (hasN S NM) FL i) = nI (ftN (hasN S NM) FL (i + 1)) from congrArg nI (ftN_no n_9 hgy)] at hl
          refine lv_iinc (v := nI (i + 1)) (lv' := [(2, .int (nI (i + 1))), (0, .ref h), (1, .int (nI (ftN (hasN S NM) FL (i + 1))))]) hx hb d_Vw_leaveOutNameless_41 hl (k := 2) rfl (by exact nI_add _ _) (by decide) rfl (fun ls hl => ?_)
          refine lv_goto (tgt := 4) hx hb d_Vw_leaveOutNameless_44 (by decide) ?_
          exact ih_4 (i + 1) vfu _ _ _ (by omega) (by omega) (ftk_no n_9 hgy ha1) (fun q z1 z2 => ha2 q (by omega) z2) hP hD hS (lv_sub hl [1, 2, 0] rfl)
        · have n_23 : 0 < (nOf S (FL.getD i 0) NM) := Nat.lt_of_not_le (fun z => c_23 ((nI_leI (a := (nOf S (FL.getD i 0) NM)) (b := 0) (by omega) (by omega)).mpr z))
          have hgy : (hasN S NM) (FL.getD i 0) = true := hasN_iff.mpr n_23
          refine lv_aload_n hx hb d_Vw_leaveOutNameless_26 rfl (lv_at hl 0 rfl) ?_
          refine va_get (D := (dC, dI)) (ci := 11) (v := .ref vfA) (C := R_Vw) (T := F_Vw) (N := 14) hx hb hts i_Vw hown hK hP 0 rfl rfl 0 (by decide) (hts _ gw_319) (fun _ h9 => h9) rfl d_Vw_leaveOutNameless_27 ?_
          refine lv_iload_n hx hb d_Vw_leaveOutNameless_30 rfl (lv_at hl 1 rfl) ?_
          refine lv_aload_n hx hb d_Vw_leaveOutNameless_31 rfl (lv_at hl 0 rfl) ?_
          refine va_get (D := (dC, dI)) (ci := 11) (v := .ref vfA) (C := R_Vw) (T := F_Vw) (N := 14) hx hb hts i_Vw hown hK hP 0 rfl rfl 0 (by decide) (hts _ gw_319) (fun _ h9 => h9) rfl d_Vw_leaveOutNameless_32 ?_
          refine lv_iload_n hx hb d_Vw_leaveOutNameless_35 rfl (lv_at hl 2 rfl) ?_
          refine va_iald hx hb hK hP 1 0 rfl rfl (vp_in_nI (by omega) (by omega)) d_Vw_leaveOutNameless_36 ?_
          rw [show (nI i).toNatClampNeg = i from nI_clamp (by omega)]
          refine lv_topi (fun x_3 ex_3 => ?_)
          obtain rfl : x_3 = nI (FL.getD i 0) := by rw [ex_3]; first | done | (rw [ha2 i (Nat.le_refl _) n_9]; exact hA1 i n_9)
          refine va_iast hx hb hK hP hD hS 1 0 rfl rfl (vp_in_nI (by omega) (by omega)) d_Vw_leaveOutNameless_37 (fun H locs hP hD hS => ?_)
          rw [show (nI (ftN (hasN S NM) FL i)).toNatClampNeg = (ftN (hasN S NM) FL i) from nI_clamp (by omega)] at hP hD
          have hP : va_P (dC, dI) classes [(h, .inr (11, [.ref vfA, .ref voA, vw_namings, .int (nI FL.length), vw_namingTotal, vw_stock, vw_changes, vw_loaded, vw_version, vw_over, vw_round, vw_heads, vw_nexts, vw_sharing])), (vfA, .inl (cI, 200, .inl (upd vfu (ftN (hasN S NM) FL i) (nI (FL.getD i 0))))), (voA, .inl (cI, 200, .inl vo))] H := hP
          have hD : va_D A [(h, .inr (11, [.ref vfA, .ref voA, vw_namings, .int (nI FL.length), vw_namingTotal, vw_stock, vw_changes, vw_loaded, vw_version, vw_over, vw_round, vw_heads, vw_nexts, vw_sharing])), (vfA, .inl (cI, 200, .inl (upd vfu (ftN (hasN S NM) FL i) (nI (FL.getD i 0))))), (voA, .inl (cI, 200, .inl vo))] := hD
          refine lv_iinc (v := nI ((ftN (hasN S NM) FL i) + 1)) (lv' := [(1, .int (nI ((ftN (hasN S NM) FL i) + 1))), (0, .ref h), (2, .int (nI i))]) hx hb d_Vw_leaveOutNameless_38 hl (k := 1) rfl (by exact nI_add _ _) (by decide) rfl (fun ls hl => ?_)
          rw [show nI ((ftN (hasN S NM) FL i) + 1) = nI (ftN (hasN S NM) FL (i + 1)) from congrArg nI (ftN_yes n_9 hgy)] at hl
          refine lv_iinc (v := nI (i + 1)) (lv' := [(2, .int (nI (i + 1))), (1, .int (nI (ftN (hasN S NM) FL (i + 1)))), (0, .ref h)]) hx hb d_Vw_leaveOutNameless_41 hl (k := 2) rfl (by exact nI_add _ _) (by decide) rfl (fun ls hl => ?_)
          refine lv_goto (tgt := 4) hx hb d_Vw_leaveOutNameless_44 (by decide) ?_
          exact ih_4 (i + 1) (upd vfu (ftN (hasN S NM) FL i) (nI (FL.getD i 0))) _ _ _ (by omega) (by omega) (ftk_yes n_9 hgy ha1) (fun q z1 z2 => (upd_ne _ (by omega)).trans (ha2 q (by omega) z2)) hP hD hS (lv_sub hl [2, 1, 0] rfl)
  exact loop_4 _ 0 vf _ _ _ (Nat.lt_succ_self _) (Nat.zero_le _) (arrL.nil _) (fun _ _ _ => rfl) hP hD hS (lv_sub hl [2, 1, 0] rfl)
end
section
/-! 92.load.lean.txt -/
theorem gw_210 : (Jvm.Cond.fieldLink "PatchStore$View" (82 : Nat) "PatchStore$Stock" "byHash" "[I") ∈ xg_1 := xg_s1 210 rfl rfl
theorem gw_999 : (Jvm.Cond.methodLink "PatchStore$View" (62 : Nat) ({ cls := "PatchStore$Repository", name := "holds", desc := "(I)Z" } : Jvm.MethodName)) ∈ xg_1 := xg_s5 39 rfl rfl
theorem gw_1000 : (Jvm.Cond.methodLink "PatchStore$View" (66 : Nat) ({ cls := "PatchStore$View", name := "markOver", desc := "(I)V" } : Jvm.MethodName)) ∈ xg_1 := xg_s5 40 rfl rfl
theorem gw_1002 : (Jvm.Cond.instanceMethod ({ cls := "PatchStore$View", name := "markOver", desc := "(I)V" } : Jvm.MethodName)) ∈ xg_1 := xg_s5 42 rfl rfl
theorem gw_1003 : (Jvm.Cond.code ({ cls := "PatchStore$View", name := "markOver", desc := "(I)V" } : Jvm.MethodName) prog_12_method_3_code (6 : Nat) (Option.none : Option Jvm.ClassFile.FieldType)) ∈ xg_1 := xg_s5 43 rfl rfl
theorem gw_1007 : (Jvm.Cond.methodLink "PatchStore$View" (85 : Nat) ({ cls := "PatchStore$View", name := "gather", desc := "(I)V" } : Jvm.MethodName)) ∈ xg_1 := xg_s5 47 rfl rfl
theorem gw_1009 : (Jvm.Cond.instanceMethod ({ cls := "PatchStore$View", name := "gather", desc := "(I)V" } : Jvm.MethodName)) ∈ xg_1 := xg_s5 49 rfl rfl
theorem gw_1010 : (Jvm.Cond.code ({ cls := "PatchStore$View", name := "gather", desc := "(I)V" } : Jvm.MethodName) prog_12_method_4_code (3 : Nat) (Option.none : Option Jvm.ClassFile.FieldType)) ∈ xg_1 := xg_s5 50 rfl rfl
/-- the files that the patches of the set add, by hash: those of the first i patches -/
def flA (S : Stk) (mw : Nat → Int64) (i : Nat) : List Nat := ((allU S mw i).filter (adB S)).map S.CF
/-- the namings that are there: those of the first i patches -/
noncomputable def nmA (S : Stk) (mw : Nat → Int64) (i : Nat) : List Nat := (allU S mw i).filter (thB S mw)
def flAN (S : Stk) (mw : Nat → Int64) (i : Nat) : Nat := (flA S mw i).length
noncomputable def nmAN (S : Stk) (mw : Nat → Int64) (i : Nat) : Nat := (nmA S mw i).length
/-- the namings that are there -/
noncomputable def namL (S : Stk) (mw : Nat → Int64) : List Nat := nmA S mw S.P
/-- the files that are there -/
noncomputable def filL (S : Stk) (mw : Nat → Int64) : List Nat := (flA S mw S.P).filter (hasN S (namL S mw))
theorem flA_yes {S : Stk} {mw : Nat → Int64} {i : Nat} (h : bt mw (S.BH i) = true) : flj S (flA S mw i) (S.BH i) (S.nT (S.BH i)) = flA S mw (i + 1) := by
  unfold flj flA
  show _ = ((allU S mw i ++ (if bt mw (S.BH i) = true then seqL (S.FC (S.BH i)) (S.nT (S.BH i)) else [])).filter (adB S)).map S.CF
  rw [if_pos h, List.filter_append, List.map_append]
theorem nmA_yes {S : Stk} {mw : Nat → Int64} {i : Nat} (h : bt mw (S.BH i) = true) : nmj S mw (nmA S mw i) (S.BH i) (S.nT (S.BH i)) = nmA S mw (i + 1) := by
  unfold nmj nmA
  show _ = (allU S mw i ++ (if bt mw (S.BH i) = true then seqL (S.FC (S.BH i)) (S.nT (S.BH i)) else [])).filter (thB S mw)
  rw [if_pos h, List.filter_append]
theorem allU_no {S : Stk} {mw : Nat → Int64} {i : Nat} (h : ¬ bt mw (S.BH i) = true) : allU S mw (i + 1) = allU S mw i := by
  show allU S mw i ++ (if bt mw (S.BH i) = true then seqL (S.FC (S.BH i)) (S.nT (S.BH i)) else []) = _
  rw [if_neg h, List.append_nil]
theorem flA_no {S : Stk} {mw : Nat → Int64} {i : Nat} (h : ¬ bt mw (S.BH i) = true) : flA S mw i = flA S mw (i + 1) := by
  unfold flA
  rw [allU_no h]
theorem nmA_no {S : Stk} {mw : Nat → Int64} {i : Nat} (h : ¬ bt mw (S.BH i) = true) : nmA S mw i = nmA S mw (i + 1) := by
  unfold nmA
  rw [allU_no h]
theorem allU_mem {S : Stk} {mw : Nat → Int64} {c : Nat} : ∀ {i}, c ∈ allU S mw i ↔ ∃ k, k < i ∧ bt mw (S.BH k) = true ∧ S.FC (S.BH k) ≤ c ∧ c < S.FC (S.BH k) + S.nT (S.BH k)
  | 0 => by
    constructor
    · intro h; cases h
    · rintro ⟨k, h, _⟩; exact absurd h (Nat.not_lt_zero _)
  | i + 1 => by
    show c ∈ allU S mw i ++ (if bt mw (S.BH i) = true then seqL (S.FC (S.BH i)) (S.nT (S.BH i)) else []) ↔ _
    rw [List.mem_append, allU_mem (i := i)]
    constructor
    · rintro (⟨k, h1, h2⟩ | h)
      · exact ⟨k, by omega, h2⟩
      · by_cases e : bt mw (S.BH i) = true
        · rw [if_pos e] at h
          exact ⟨i, by omega, e, seqL_mem.mp h⟩
        · rw [if_neg e] at h; cases h
    · rintro ⟨k, h1, h2, h3⟩
      by_cases e : k = i
      · subst e
        rw [if_pos h2]
        exact Or.inr (seqL_mem.mpr h3)
      · exact Or.inl ⟨k, by omega, h2, h3⟩
theorem sInv.allm {S : Stk} (I : sInv S) {mw : Nat → Int64} {c i : Nat} (hi : i ≤ S.P) (h : c ∈ allU S mw i) : c < S.FC S.P := by
  obtain ⟨k, h1, h2, h3, h4⟩ := allU_mem.mp h
  have := (I.bounds (I.bh k (by omega))).1
  omega
theorem sInv.fll {S : Stk} (I : sInv S) {mw : Nat → Int64} {i : Nat} (hi : i ≤ S.P) : ∀ y, y ∈ flA S mw i → y < 200 := by
  intro y hy
  unfold flA at hy
  obtain ⟨c, h1, rfl⟩ := List.mem_map.mp hy
  have := I.cfl (I.allm hi (List.mem_filter.mp h1).1)
  have := I.nfP
  omega
theorem nmAN_le (S : Stk) (mw : Nat → Int64) (i : Nat) : nmAN S mw i ≤ numL (nmB S) (allU S mw i) := by
  unfold nmAN nmA numL
  generalize allU S mw i = L
  induction L with
  | nil => exact Nat.le_refl _
  | cons x L ih =>
    cases h : thB S mw x with
    | true =>
      rw [List.filter_cons_of_pos h, List.filter_cons_of_pos (thB_nm h)]
      simp only [List.length_cons]
      omega
    | false =>
      rw [List.filter_cons_of_neg (by simp [h])]
      by_cases z : nmB S x = true
      · rw [List.filter_cons_of_pos z]
        simp only [List.length_cons]
        omega
      · rw [List.filter_cons_of_neg z]
        exact ih
theorem flAN_eq (S : Stk) (mw : Nat → Int64) (i : Nat) : flAN S mw i = numL (adB S) (allU S mw i) := by
  unfold flAN flA numL
  rw [List.length_map]
theorem sInv.fitA {S : Stk} (I : sInv S) (hb : ∀ j, j < S.FR S.P → b8 (S.f j) = 0 → S.f j = 0) (mw : Nat → Int64) {i : Nat} (hi : i ≤ S.P) : flAN S mw i ≤ 200 ∧ nmAN S mw i ≤ 16750 := by
  have key : ∀ b : Nat → Bool, numL b (allU S mw i) ≤ sumN (fun p => numL b (seqL (S.FC p) (S.nT p))) S.P := fun b => Nat.le_trans (allU_num b i) (sumN_inj (w := fun p => numL b (seqL (S.FC p) (S.nT p))) (B := S.BH) (P := S.P) i (fun k z => I.bh k (by omega)) (fun a k z1 z2 => I.inj a k z1 (by omega)))
  have k1 := key (adB S)
  have k2 := key (nmB S)
  have e1 := I.adsum S.P (Nat.le_refl _)
  have e2 := I.nmsum hb S.P (Nat.le_refl _)
  have e3 := I.nfP
  have e4 := I.frP
  have e5 := flAN_eq S mw i
  have e6 := nmAN_le S mw i
  omega
theorem sInv.fitG {S : Stk} (I : sInv S) (hb : ∀ j, j < S.FR S.P → b8 (S.f j) = 0 → S.f j = 0) (mw : Nat → Int64) {i : Nat} (hi : i < S.P) : ∀ j, j ≤ S.nT (S.BH i) → (flA S mw i).length + numL (adB S) (seqL (S.FC (S.BH i)) j) ≤ 200 ∧ (nmA S mw i).length + numL (nmB S) (seqL (S.FC (S.BH i)) j) ≤ 16750 := by
  intro j hj
  have h := I.fits hb (mw := mw) hi hj
  rw [numL_app, numL_app] at h
  have e5 : (flA S mw i).length = _ := flAN_eq S mw i
  have e6 : (nmA S mw i).length ≤ _ := nmAN_le S mw i
  omega
theorem ov_iff {S : Stk} {mw : Nat → Int64} {ov ovu : Nat → Int32} {rd : Nat} (hr : rd < 2147483640) (h : setR ovu ov (ovS S mw S.P) (nI (rd + 1))) (ho : ∀ x, x < S.FC S.P → ∃ k, k ≤ rd ∧ ov x = nI k) : ∀ x, x < S.FC S.P → (ovu x = nI (rd + 1) ↔ ovS S mw S.P x) := by
  intro x hx
  constructor
  · intro e
    rcases Classical.em (ovS S mw S.P x) with z | z
    · exact z
    · obtain ⟨k, h1, h2⟩ := ho x hx
      rw [(h x).2 z, h2] at e
      have := (nI_eq (by omega) (by omega)).mp e
      omega
  · intro z
    exact (h x).1 z
theorem ov_old {Q : Nat → Prop} {ov ovu : Nat → Int32} {rd n : Nat} (h : setR ovu ov Q (nI (rd + 1))) (ho : ∀ x, x < n → ∃ k, k ≤ rd ∧ ov x = nI k) : ∀ x, x < n → ∃ k, k ≤ rd + 1 ∧ ovu x = nI k := by
  intro x hx
  rcases Classical.em (Q x) with z | z
  · exact ⟨rd + 1, Nat.le_refl _, (h x).1 z⟩
  · obtain ⟨k, h1, h2⟩ := ho x hx
    exact ⟨k, by omega, ((h x).2 z).trans h2⟩
end
