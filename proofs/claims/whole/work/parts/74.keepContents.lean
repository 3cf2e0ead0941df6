section
/-! 74.keepContents.lean.txt -/
theorem gw_111 : (Jvm.Cond.fieldLink "PatchStore$Intake" (221 : Nat) "PatchStore$Changes" "adds" "[I") ∈ xg_1 := xg_s1 111 rfl rfl
theorem gw_957 : (Jvm.Cond.methodLink "PatchStore$Intake" (224 : Nat) ({ cls := "PatchStore$Intake", name := "keepLines", desc := "(I)V" } : Jvm.MethodName)) ∈ xg_1 := xg_s4 237 rfl rfl
theorem gw_959 : (Jvm.Cond.instanceMethod ({ cls := "PatchStore$Intake", name := "keepLines", desc := "(I)V" } : Jvm.MethodName)) ∈ xg_1 := xg_s4 239 rfl rfl
theorem gw_960 : (Jvm.Cond.code ({ cls := "PatchStore$Intake", name := "keepLines", desc := "(I)V" } : Jvm.MethodName) prog_4_method_18_code (8 : Nat) (Option.none : Option Jvm.ClassFile.FieldType)) ∈ xg_1 := xg_s5 0 rfl rfl
def y_In_keepContents : MethodName := ⟨"PatchStore$Intake", "keepContents", "()V"⟩
abbrev c_In_keepContents : Cond := (Jvm.Cond.code ({ cls := "PatchStore$Intake", name := "keepContents", desc := "()V" } : Jvm.MethodName) prog_4_method_17_code (3 : Nat) (Option.none : Option Jvm.ClassFile.FieldType))
abbrev ws_In_keepContents : List Cond := c_In_keepContents :: xg_1
theorem d_In_keepContents_0 : decode prog_4_method_17_code 0 = .ok (.aload_n 0, 1) := by decide +kernel
theorem d_In_keepContents_1 : decode prog_4_method_17_code 1 = .ok (.getfield 18, 3) := by decide +kernel
theorem d_In_keepContents_4 : decode prog_4_method_17_code 4 = .ok (.getfield 151, 3) := by decide +kernel
theorem d_In_keepContents_7 : decode prog_4_method_17_code 7 = .ok (.aload_n 0, 1) := by decide +kernel
theorem d_In_keepContents_8 : decode prog_4_method_17_code 8 = .ok (.getfield 18, 3) := by decide +kernel
theorem d_In_keepContents_11 : decode prog_4_method_17_code 11 = .ok (.getfield 84, 3) := by decide +kernel
theorem d_In_keepContents_14 : decode prog_4_method_17_code 14 = .ok (.iaload, 1) := by decide +kernel
theorem d_In_keepContents_15 : decode prog_4_method_17_code 15 = .ok (.istore_n 1, 1) := by decide +kernel
theorem d_In_keepContents_16 : decode prog_4_method_17_code 16 = .ok (.iload_n 1, 1) := by decide +kernel
theorem d_In_keepContents_17 : decode prog_4_method_17_code 17 = .ok (.aload_n 0, 1) := by decide +kernel
theorem d_In_keepContents_18 : decode prog_4_method_17_code 18 = .ok (.getfield 18, 3) := by decide +kernel
theorem d_In_keepContents_21 : decode prog_4_method_17_code 21 = .ok (.getfield 151, 3) := by decide +kernel
theorem d_In_keepContents_24 : decode prog_4_method_17_code 24 = .ok (.aload_n 0, 1) := by decide +kernel
theorem d_In_keepContents_25 : decode prog_4_method_17_code 25 = .ok (.getfield 18, 3) := by decide +kernel
theorem d_In_keepContents_28 : decode prog_4_method_17_code 28 = .ok (.getfield 84, 3) := by decide +kernel
theorem d_In_keepContents_31 : decode prog_4_method_17_code 31 = .ok (.iconst 1, 1) := by decide +kernel
theorem d_In_keepContents_32 : decode prog_4_method_17_code 32 = .ok (.iadd, 1) := by decide +kernel
theorem d_In_keepContents_33 : decode prog_4_method_17_code 33 = .ok (.iaload, 1) := by decide +kernel
theorem d_In_keepContents_34 : decode prog_4_method_17_code 34 = .ok (.if_icmp .ge 53, 3) := by decide +kernel
theorem d_In_keepContents_37 : decode prog_4_method_17_code 37 = .ok (.aload_n 0, 1) := by decide +kernel
theorem d_In_keepContents_38 : decode prog_4_method_17_code 38 = .ok (.getfield 18, 3) := by decide +kernel
theorem d_In_keepContents_41 : decode prog_4_method_17_code 41 = .ok (.iload_n 1, 1) := by decide +kernel
theorem d_In_keepContents_42 : decode prog_4_method_17_code 42 = .ok (.invokevirtual 205, 3) := by decide +kernel
theorem d_In_keepContents_45 : decode prog_4_method_17_code 45 = .ok (.istore_n 2, 1) := by decide +kernel
theorem d_In_keepContents_46 : decode prog_4_method_17_code 46 = .ok (.iload_n 2, 1) := by decide +kernel
theorem d_In_keepContents_47 : decode prog_4_method_17_code 47 = .ok (.ifCond .ne 24, 3) := by decide +kernel
theorem d_In_keepContents_50 : decode prog_4_method_17_code 50 = .ok (.aload_n 0, 1) := by decide +kernel
theorem d_In_keepContents_51 : decode prog_4_method_17_code 51 = .ok (.getfield 28, 3) := by decide +kernel
theorem d_In_keepContents_54 : decode prog_4_method_17_code 54 = .ok (.getfield 221, 3) := by decide +kernel
theorem d_In_keepContents_57 : decode prog_4_method_17_code 57 = .ok (.aload_n 0, 1) := by decide +kernel
theorem d_In_keepContents_58 : decode prog_4_method_17_code 58 = .ok (.getfield 28, 3) := by decide +kernel
theorem d_In_keepContents_61 : decode prog_4_method_17_code 61 = .ok (.getfield 157, 3) := by decide +kernel
theorem d_In_keepContents_64 : decode prog_4_method_17_code 64 = .ok (.iload_n 1, 1) := by decide +kernel
theorem d_In_keepContents_65 : decode prog_4_method_17_code 65 = .ok (.iaload, 1) := by decide +kernel
theorem d_In_keepContents_66 : decode prog_4_method_17_code 66 = .ok (.iload_n 1, 1) := by decide +kernel
theorem d_In_keepContents_67 : decode prog_4_method_17_code 67 = .ok (.iastore, 1) := by decide +kernel
theorem d_In_keepContents_68 : decode prog_4_method_17_code 68 = .ok (.goto 13, 3) := by decide +kernel
theorem d_In_keepContents_71 : decode prog_4_method_17_code 71 = .ok (.iload_n 2, 1) := by decide +kernel
theorem d_In_keepContents_72 : decode prog_4_method_17_code 72 = .ok (.iconst 2, 1) := by decide +kernel
theorem d_In_keepContents_73 : decode prog_4_method_17_code 73 = .ok (.if_icmp .ne 8, 3) := by decide +kernel
theorem d_In_keepContents_76 : decode prog_4_method_17_code 76 = .ok (.aload_n 0, 1) := by decide +kernel
theorem d_In_keepContents_77 : decode prog_4_method_17_code 77 = .ok (.iload_n 1, 1) := by decide +kernel
theorem d_In_keepContents_78 : decode prog_4_method_17_code 78 = .ok (.invokevirtual 224, 3) := by decide +kernel
theorem d_In_keepContents_81 : decode prog_4_method_17_code 81 = .ok (.iinc 1 1, 3) := by decide +kernel
theorem d_In_keepContents_84 : decode prog_4_method_17_code 84 = .ok (.goto (-68), 3) := by decide +kernel
theorem d_In_keepContents_87 : decode prog_4_method_17_code 87 = .ok (.aload_n 0, 1) := by decide +kernel
theorem d_In_keepContents_88 : decode prog_4_method_17_code 88 = .ok (.getfield 28, 3) := by decide +kernel
theorem d_In_keepContents_91 : decode prog_4_method_17_code 91 = .ok (.aload_n 0, 1) := by decide +kernel
theorem d_In_keepContents_92 : decode prog_4_method_17_code 92 = .ok (.getfield 140, 3) := by decide +kernel
theorem d_In_keepContents_95 : decode prog_4_method_17_code 95 = .ok (.putfield 135, 3) := by decide +kernel
theorem d_In_keepContents_98 : decode prog_4_method_17_code 98 = .ok (.return_, 1) := by decide +kernel
/-- the lines of the insert c at a, the first of them line n0 -/
def liR (f : Nat → Int32) (DP FC CL : Nat → Nat) (P nd c a n0 : Nat) (la ll lc lp lu ld : Nat → Int32) : Prop := ∀ q, q < tw f (lnAt f a) → la (n0 + q) = nI (lnP f (lnAt f a + 2) q + 2) ∧ ll (n0 + q) = nI (tw f (lnP f (lnAt f a + 2) q)) ∧ lc (n0 + q) = nI c ∧ lp (n0 + q) = nI q ∧ upR f DP FC CL P nd c (a + 5) (lu (n0 + q)) ∧ upR f DP FC CL P nd c (plEnd f (a + 5)) (ld (n0 + q))
theorem liR.same {f : Nat → Int32} {DP FC CL : Nat → Nat} {P nd c a n0 M : Nat} {la ll lc lp lu ld la' ll' lc₇ lp' lu' ld₇ : Nat → Int32} (h : liR f DP FC CL P nd c a n0 la ll lc lp lu ld) (hs : ∀ q, q < M → la' q = la q ∧ ll' q = ll q ∧ lc₇ q = lc q ∧ lp' q = lp q ∧ lu' q = lu q ∧ ld₇ q = ld q) (hM : n0 + tw f (lnAt f a) ≤ M) : liR f DP FC CL P nd c a n0 la' ll' lc₇ lp' lu' ld₇ := by
  intro q hq
  obtain ⟨e1, e2, e3, e4, e5, e6⟩ := hs (n0 + q) (by omega)
  rw [e1, e2, e3, e4, e5, e6]
  exact h q hq
theorem NLs_ne {f : Nat → Int32} {CA : Nat → Nat} {c0 NL0 j : Nat} (h : ¬ f (CA (c0 + j)) = 2) : NLs f CA c0 NL0 (j + 1) = NLs f CA c0 NL0 j := if_neg h
theorem NLs_eq {f : Nat → Int32} {CA : Nat → Nat} {c0 NL0 j : Nat} (h : f (CA (c0 + j)) = 2) : NLs f CA c0 NL0 (j + 1) = NLs f CA c0 NL0 j + tw f (lnAt f (CA (c0 + j))) := if_pos h
theorem NFs_eq {f : Nat → Int32} {CA : Nat → Nat} {c0 NF0 j : Nat} (h : f (CA (c0 + j)) = 0) : NFs f CA c0 NF0 (j + 1) = NFs f CA c0 NF0 j + 1 := if_pos h
theorem NFs_ne {f : Nat → Int32} {CA : Nat → Nat} {c0 NF0 j : Nat} (h : ¬ f (CA (c0 + j)) = 0) : NFs f CA c0 NF0 (j + 1) = NFs f CA c0 NF0 j := if_neg h
theorem rsR_0 {f : Nat → Int32} {DP FC CA CF CL : Nat → Nat} {P nd cc NF a y : Nat} (h : f a = 0) (z : rsR f DP FC CA CF CL P nd cc NF a y) : y = NF := by
  rcases z with ⟨z, r⟩ | ⟨z, r⟩ | ⟨z, r⟩ | ⟨z, r⟩ | ⟨z, r⟩ <;> first | exact r | (rw [h] at z; exact absurd z (by decide))
theorem clX_at (f : Nat → Int32) (CA CL : Nat → Nat) (c0 NL0 j : Nat) : clX f CA CL c0 NL0 (c0 + j) = NLs f CA c0 NL0 j := by
  unfold clX
  rw [if_neg (by omega), Nat.add_sub_cancel_left]
theorem adK {f adu : Nat → Int32} {CA : Nat → Nat} {c0 NF0 j : Nat} {v : Int32} (h : ∀ i, i < j → f (CA (c0 + i)) = 0 → adu (NFs f CA c0 NF0 i) = nI (c0 + i)) : ∀ i, i < j → f (CA (c0 + i)) = 0 → upd adu (NFs f CA c0 NF0 j) v (NFs f CA c0 NF0 i) = nI (c0 + i) := by
  intro i hi e
  have h1 := NFs_mono f CA c0 NF0 (i := i + 1) (j := j) (by omega)
  rw [NFs_eq e] at h1
  rw [upd_ne _ (by omega)]
  exact h i hi e
set_option maxHeartbeats 4000000 in
set_option maxRecDepth 100000 in
/-- the contents of the candidate are kept -/
theorem m_In_keepContents (l : Launch) (dC : Nat → ClassId) (dI : Nat → Nat → Nat) (cI cB cL cZ cR : ClassId) (h sk b_y fdA dpA fcA ch cat cfA flA ln laA llA lcA lpA luA ldA ofA adA : Nat) (it_sha it_form it_named it_linesOfFile it_nextLine sk_from sk_hashes sk_byHash sk_leansOn sk_leantBy sk_lines ch_patch ch_files : Value) (f fdf dpf fcf ca cff flf laf llf lcf lpf luf ldf off adf : Nat → Int32) (DP FC CA CF CL LO : Nat → Nat) (P D0 nd c0 T NL0 NF0 NF : Nat) (sz : Nat) (hP5 : P ≤ 500) (gE0 : fdf P = nI D0) (hnd : nd ≤ 2048) (hDr : D0 + nd ≤ 8400) (gD : ∀ i, i < nd → dpf (D0 + i) = nI (DP i) ∧ DP i < P) (gC : ∀ i, i ≤ P → fcf i = nI (FC i) ∧ FC i ≤ 38000) (hc0 : FC P = c0) (gT : fcf (P + 1) = nI (c0 + T)) (hT : c0 + T ≤ 38000) (gL : ∀ i, i < P → FC (i + 1) ≤ c0) (gA : ∀ i, i < c0 + T → ca i = nI (CA i) ∧ CA i + 5 < 290000) (gF : ∀ i, i < T → cff (c0 + i) = nI (CF (c0 + i)) ∧ CF (c0 + i) < 200) (gCL : ∀ i, i < c0 + T → f (CA i) = 2 → flf i = nI (clX f CA CL c0 NL0 i) ∧ clX f CA CL c0 NL0 i < 200000) (gV : ∀ i, c0 ≤ i → i < c0 + T → chV f (CA i)) (gP : ∀ c, c0 ≤ c → c < c0 + T → f (CA c) = 2 → ∀ i, i < tw f (lnAt f (CA c)) → lnP f (lnAt f (CA c) + 2) i + 2 + tw f (lnP f (lnAt f (CA c) + 2) i) < 290000) (hrs : rsA f DP FC CA CF (clX f CA CL c0 NL0) P nd c0 NF0 T) (hNLT : NLs f CA c0 NL0 T ≤ 4000) (hff : ∀ j, j < T → f (CA (c0 + j)) = 2 → lcs f CA CF c0 (j + 1) LO (CF (c0 + j)) ≤ 400) (gO : ∀ i, i < 200 → off i = nI (LO i) ∧ LO i ≤ 400) : Met l y_In_keepContents ws_In_keepContents ({ frames := 5, cells := 0, slots := 0, locals := 300 }) (xw_Pc dC dI [(cI, .int), (cB, .byte), (cL, .long), (cZ, .boolean), (cR, .object "PatchStore$Repository")] [.ref h] [(h, .inr (3, [.ref sk, .ref ch, .ref ln, it_sha, it_form, it_named, it_linesOfFile, .int (nI NF), it_nextLine])), (sk, .inr (9, [.ref b_y, sk_from, .ref fdA, .ref fcA, .ref dpA, sk_hashes, sk_byHash, sk_leansOn, sk_leantBy, .ref ch, sk_lines, .int (nI P)])), (b_y, .inl (cB, 290000, .inl f)), (fdA, .inl (cI, 502, .inl fdf)), (dpA, .inl (cI, 8400, .inl dpf)), (fcA, .inl (cI, 502, .inl fcf)), (ch, .inr (1, [.ref cat, ch_patch, .ref cfA, .ref flA, .ref adA, ch_files])), (cat, .inl (cI, 38000, .inl ca)), (cfA, .inl (cI, 38000, .inl cff)), (flA, .inl (cI, 38000, .inl flf)), (ln, .inr (4, [.ref laA, .ref llA, .ref lcA, .ref lpA, .ref luA, .ref ldA, .ref ofA, .int (nI NL0)])), (laA, .inl (cI, 4000, .inl laf)), (llA, .inl (cI, 4000, .inl llf)), (lcA, .inl (cI, 4000, .inl lcf)), (lpA, .inl (cI, 4000, .inl lpf)), (luA, .inl (cI, 4000, .inl luf)), (ldA, .inl (cI, 4000, .inl ldf)), (ofA, .inl (cI, 200, .inl off)), (adA, .inl (cI, 200, .inl adf))] sz) (va_Qv (fun u : (Nat → Int32) × (Nat → Int32) × (Nat → Int32) × (Nat → Int32) × (Nat → Int32) × (Nat → Int32) × (Nat → Int32) × (Nat → Int32) × Nat => (∀ i, i < T → f (CA (c0 + i)) = 2 → liR f DP FC (clX f CA CL c0 NL0) P nd (c0 + i) (CA (c0 + i)) (NLs f CA c0 NL0 i) u.1 u.2.1 u.2.2.1 u.2.2.2.1 u.2.2.2.2.1 u.2.2.2.2.2.1) ∧ (∀ q, q < NL0 → u.1 q = laf q ∧ u.2.1 q = llf q ∧ u.2.2.1 q = lcf q ∧ u.2.2.2.1 q = lpf q ∧ u.2.2.2.2.1 q = luf q ∧ u.2.2.2.2.2.1 q = ldf q) ∧ (∀ i, i < 200 → u.2.2.2.2.2.2.1 i = nI (lcs f CA CF c0 T LO i) ∧ lcs f CA CF c0 T LO i ≤ 400) ∧ (∀ i, i < T → f (CA (c0 + i)) = 0 → u.2.2.2.2.2.2.2.1 (NFs f CA c0 NF0 i) = nI (c0 + i)) ∧ (∀ i, i < NF0 → u.2.2.2.2.2.2.2.1 i = adf i) ∧ u.2.2.2.2.2.2.2.2 = NLs f CA c0 NL0 T) (fun u t => xw_B dC dI [(cI, .int), (cB, .byte), (cL, .long), (cZ, .boolean), (cR, .object "PatchStore$Repository")] (va_A [(h, .inr (3, [.ref sk, .ref ch, .ref ln, it_sha, it_form, it_named, it_linesOfFile, .int (nI NF), it_nextLine])), (sk, .inr (9, [.ref b_y, sk_from, .ref fdA, .ref fcA, .ref dpA, sk_hashes, sk_byHash, sk_leansOn, sk_leantBy, .ref ch, sk_lines, .int (nI P)])), (b_y, .inl (cB, 290000, .inl f)), (fdA, .inl (cI, 502, .inl fdf)), (dpA, .inl (cI, 8400, .inl dpf)), (fcA, .inl (cI, 502, .inl fcf)), (ch, .inr (1, [.ref cat, ch_patch, .ref cfA, .ref flA, .ref adA, ch_files])), (cat, .inl (cI, 38000, .inl ca)), (cfA, .inl (cI, 38000, .inl cff)), (flA, .inl (cI, 38000, .inl flf)), (ln, .inr (4, [.ref laA, .ref llA, .ref lcA, .ref lpA, .ref luA, .ref ldA, .ref ofA, .int (nI NL0)])), (laA, .inl (cI, 4000, .inl laf)), (llA, .inl (cI, 4000, .inl llf)), (lcA, .inl (cI, 4000, .inl lcf)), (lpA, .inl (cI, 4000, .inl lpf)), (luA, .inl (cI, 4000, .inl luf)), (ldA, .inl (cI, 4000, .inl ldf)), (ofA, .inl (cI, 200, .inl off)), (adA, .inl (cI, 200, .inl adf))] sz) [(h, .inr (3, [.ref sk, .ref ch, .ref ln, it_sha, it_form, it_named, it_linesOfFile, .int (nI NF), it_nextLine])), (sk, .inr (9, [.ref b_y, sk_from, .ref fdA, .ref fcA, .ref dpA, sk_hashes, sk_byHash, sk_leansOn, sk_leantBy, .ref ch, sk_lines, .int (nI P)])), (b_y, .inl (cB, 290000, .inl f)), (fdA, .inl (cI, 502, .inl fdf)), (dpA, .inl (cI, 8400, .inl dpf)), (fcA, .inl (cI, 502, .inl fcf)), (ch, .inr (1, [.ref cat, ch_patch, .ref cfA, .ref flA, .ref adA, .int (nI NF)])), (cat, .inl (cI, 38000, .inl ca)), (cfA, .inl (cI, 38000, .inl cff)), (flA, .inl (cI, 38000, .inl flf)), (ln, .inr (4, [.ref laA, .ref llA, .ref lcA, .ref lpA, .ref luA, .ref ldA, .ref ofA, .int (nI u.2.2.2.2.2.2.2.2)])), (laA, .inl (cI, 4000, .inl u.1)), (llA, .inl (cI, 4000, .inl u.2.1)), (lcA, .inl (cI, 4000, .inl u.2.2.1)), (lpA, .inl (cI, 4000, .inl u.2.2.2.1)), (luA, .inl (cI, 4000, .inl u.2.2.2.2.1)), (ldA, .inl (cI, 4000, .inl u.2.2.2.2.2.1)), (ofA, .inl (cI, 200, .inl u.2.2.2.2.2.2.1)), (adA, .inl (cI, 200, .inl u.2.2.2.2.2.2.2.1))] t) (va_A [(h, .inr (3, [.ref sk, .ref ch, .ref ln, it_sha, it_form, it_named, it_linesOfFile, .int (nI NF), it_nextLine])), (sk, .inr (9, [.ref b_y, sk_from, .ref fdA, .ref fcA, .ref dpA, sk_hashes, sk_byHash, sk_leansOn, sk_leantBy, .ref ch, sk_lines, .int (nI P)])), (b_y, .inl (cB, 290000, .inl f)), (fdA, .inl (cI, 502, .inl fdf)), (dpA, .inl (cI, 8400, .inl dpf)), (fcA, .inl (cI, 502, .inl fcf)), (ch, .inr (1, [.ref cat, ch_patch, .ref cfA, .ref flA, .ref adA, ch_files])), (cat, .inl (cI, 38000, .inl ca)), (cfA, .inl (cI, 38000, .inl cff)), (flA, .inl (cI, 38000, .inl flf)), (ln, .inr (4, [.ref laA, .ref llA, .ref lcA, .ref lpA, .ref luA, .ref ldA, .ref ofA, .int (nI NL0)])), (laA, .inl (cI, 4000, .inl laf)), (llA, .inl (cI, 4000, .inl llf)), (lcA, .inl (cI, 4000, .inl lcf)), (lpA, .inl (cI, 4000, .inl lpf)), (luA, .inl (cI, 4000, .inl luf)), (ldA, .inl (cI, 4000, .inl ldf)), (ofA, .inl (cI, 200, .inl off)), (adA, .inl (cI, 200, .inl adf))] sz)) 0 0 (va_A [(h, .inr (3, [.ref sk, .ref ch, .ref ln, it_sha, it_form, it_named, it_linesOfFile, .int (nI NF), it_nextLine])), (sk, .inr (9, [.ref b_y, sk_from, .ref fdA, .ref fcA, .ref dpA, sk_hashes, sk_byHash, sk_leansOn, sk_leantBy, .ref ch, sk_lines, .int (nI P)])), (b_y, .inl (cB, 290000, .inl f)), (fdA, .inl (cI, 502, .inl fdf)), (dpA, .inl (cI, 8400, .inl dpf)), (fcA, .inl (cI, 502, .inl fcf)), (ch, .inr (1, [.ref cat, ch_patch, .ref cfA, .ref flA, .ref adA, ch_files])), (cat, .inl (cI, 38000, .inl ca)), (cfA, .inl (cI, 38000, .inl cff)), (flA, .inl (cI, 38000, .inl flf)), (ln, .inr (4, [.ref laA, .ref llA, .ref lcA, .ref lpA, .ref luA, .ref ldA, .ref ofA, .int (nI NL0)])), (laA, .inl (cI, 4000, .inl laf)), (llA, .inl (cI, 4000, .inl llf)), (lcA, .inl (cI, 4000, .inl lcf)), (lpA, .inl (cI, 4000, .inl lpf)), (luA, .inl (cI, 4000, .inl luf)), (ldA, .inl (cI, 4000, .inl ldf)), (ofA, .inl (cI, 200, .inl off)), (adA, .inl (cI, 200, .inl adf))] sz) := by
  refine Met.ofW (cc := prog_4_method_17_code) (maxL := 3) (ret := none) (by decide) rfl ?_
  intro p e s m args below meth c s₁ B hml hv
  obtain ⟨rfl, hsz, hP, hK, hD0⟩ := hv
  have hx := B.exec
  have hb := B.bytes
  have hr := B.returns
  have hts0 := atoms_spec (ws := ws_In_keepContents) B.pre
  have hts : ∀ w ∈ xg_1, w.before _ s = true := fun w h => hts0 w (List.mem_cons_of_mem _ h)
  have hown : s.vm.findClass "PatchStore$Intake" = some m.cls := findClass_of_methodNamed B.named
  have hlocks := B.notSynchronized
  subst hsz
  have hD := hD0.self (sz := s.heap.size)
  generalize hAe : va_A [(h, .inr (3, [.ref sk, .ref ch, .ref ln, it_sha, it_form, it_named, it_linesOfFile, .int (nI NF), it_nextLine])), (sk, .inr (9, [.ref b_y, sk_from, .ref fdA, .ref fcA, .ref dpA, sk_hashes, sk_byHash, sk_leansOn, sk_leantBy, .ref ch, sk_lines, .int (nI P)])), (b_y, .inl (cB, 290000, .inl f)), (fdA, .inl (cI, 502, .inl fdf)), (dpA, .inl (cI, 8400, .inl dpf)), (fcA, .inl (cI, 502, .inl fcf)), (ch, .inr (1, [.ref cat, ch_patch, .ref cfA, .ref flA, .ref adA, ch_files])), (cat, .inl (cI, 38000, .inl ca)), (cfA, .inl (cI, 38000, .inl cff)), (flA, .inl (cI, 38000, .inl flf)), (ln, .inr (4, [.ref laA, .ref llA, .ref lcA, .ref lpA, .ref luA, .ref ldA, .ref ofA, .int (nI NL0)])), (laA, .inl (cI, 4000, .inl laf)), (llA, .inl (cI, 4000, .inl llf)), (lcA, .inl (cI, 4000, .inl lcf)), (lpA, .inl (cI, 4000, .inl lpf)), (luA, .inl (cI, 4000, .inl luf)), (ldA, .inl (cI, 4000, .inl ldf)), (ofA, .inl (cI, 200, .inl off)), (adA, .inl (cI, 200, .inl adf))] s.heap.size = A at hD ⊢
  have hA : ∀ q : Nat, s.heap.size ≤ q → A q := fun q h => by rw [← hAe]; exact Or.inr h
  have hS : va_S A s.heap s.heap [] := va_S.rf
  have hl := lv_entry ([.ref h]) (n := 3) (Nat.le_of_ble_eq_true rfl)
  rw [lg_entry_eq]
  generalize (lg_sl ([.ref h]) ++ List.replicate (3 - (lg_sl ([.ref h])).length) Slot.unset).toArray = ls at hl ⊢
  have hl : lv_has ls 3 [(0, .ref h)] := hl
  generalize hQe : MQ _ _ _ _ _ _ _ = Q
  refine lv_aload_n hx hb d_In_keepContents_0 rfl (lv_at hl 0 rfl) ?_
  refine va_get (D := (dC, dI)) (ci := 3) (v := .ref sk) (C := R_In) (T := F_In) (N := 9) hx hb hts i_In hown hK hP 0 rfl rfl 0 (by decide) (hts _ gw_284) (fun _ h9 => h9) rfl d_In_keepContents_1 ?_
  refine va_get (D := (dC, dI)) (ci := 9) (v := .ref fcA) (C := R_St) (T := F_St) (N := 12) hx hb hts i_St hown hK hP 1 rfl rfl 3 (by decide) (hts _ gw_200) (fun _ h9 => h9) rfl d_In_keepContents_4 ?_
  refine lv_aload_n hx hb d_In_keepContents_7 rfl (lv_at hl 0 rfl) ?_
  refine va_get (D := (dC, dI)) (ci := 3) (v := .ref sk) (C := R_In) (T := F_In) (N := 9) hx hb hts i_In hown hK hP 0 rfl rfl 0 (by decide) (hts _ gw_284) (fun _ h9 => h9) rfl d_In_keepContents_8 ?_
  refine va_get (D := (dC, dI)) (ci := 9) (v := .int (nI P)) (C := R_St) (T := F_St) (N := 12) hx hb hts i_St hown hK hP 1 rfl rfl 11 (by decide) (hts _ gw_238) (fun _ h9 => h9) rfl d_In_keepContents_11 ?_
  refine va_iald hx hb hK hP 5 0 rfl rfl (vp_in_nI (by omega) (by omega)) d_In_keepContents_14 ?_
  rw [show (nI P).toNatClampNeg = P from nI_clamp (by omega)]
  refine lv_topi (fun x_1 ex_1 => ?_)
  obtain rfl : x_1 = nI c0 := by rw [ex_1]; first | done | (rw [← hc0]; exact (gC P (Nat.le_refl _)).1)
  refine lv_istore_n (lv' := [(1, .int (nI c0)), (0, .ref h)]) hx hb d_In_keepContents_15 rfl hl (by decide) rfl (fun ls hl => ?_)
  have loop_16 : ∀ (n9 : Nat) (j : Nat) (lau : Nat → Int32) (llu : Nat → Int32) (lcu : Nat → Int32) (lpu : Nat → Int32) (luu : Nat → Int32) (ldu : Nat → Int32) (ofu : Nat → Int32) (adu : Nat → Int32) (H : Heap) (locs : List Loc) (ls : Array Slot), T - j < n9 → (j ≤ T) → (∀ i, i < j → f (CA (c0 + i)) = 2 → liR f DP FC (clX f CA CL c0 NL0) P nd (c0 + i) (CA (c0 + i)) (NLs f CA c0 NL0 i) lau llu lcu lpu luu ldu) → (∀ q, q < NL0 → lau q = laf q ∧ llu q = llf q ∧ lcu q = lcf q ∧ lpu q = lpf q ∧ luu q = luf q ∧ ldu q = ldf q) → (∀ i, i < 200 → ofu i = nI (lcs f CA CF c0 j LO i) ∧ lcs f CA CF c0 j LO i ≤ 400) → (∀ i, i < j → f (CA (c0 + i)) = 0 → adu (NFs f CA c0 NF0 i) = nI (c0 + i)) → (∀ i, i < NF0 → adu i = adf i) → va_P (dC, dI) classes [(h, .inr (3, [.ref sk, .ref ch, .ref ln, it_sha, it_form, it_named, it_linesOfFile, .int (nI NF), it_nextLine])), (sk, .inr (9, [.ref b_y, sk_from, .ref fdA, .ref fcA, .ref dpA, sk_hashes, sk_byHash, sk_leansOn, sk_leantBy, .ref ch, sk_lines, .int (nI P)])), (b_y, .inl (cB, 290000, .inl f)), (fdA, .inl (cI, 502, .inl fdf)), (dpA, .inl (cI, 8400, .inl dpf)), (fcA, .inl (cI, 502, .inl fcf)), (ch, .inr (1, [.ref cat, ch_patch, .ref cfA, .ref flA, .ref adA, ch_files])), (cat, .inl (cI, 38000, .inl ca)), (cfA, .inl (cI, 38000, .inl cff)), (flA, .inl (cI, 38000, .inl flf)), (ln, .inr (4, [.ref laA, .ref llA, .ref lcA, .ref lpA, .ref luA, .ref ldA, .ref ofA, .int (nI (NLs f CA c0 NL0 j))])), (laA, .inl (cI, 4000, .inl lau)), (llA, .inl (cI, 4000, .inl llu)), (lcA, .inl (cI, 4000, .inl lcu)), (lpA, .inl (cI, 4000, .inl lpu)), (luA, .inl (cI, 4000, .inl luu)), (ldA, .inl (cI, 4000, .inl ldu)), (ofA, .inl (cI, 200, .inl ofu)), (adA, .inl (cI, 200, .inl adu))] H → va_D A [(h, .inr (3, [.ref sk, .ref ch, .ref ln, it_sha, it_form, it_named, it_linesOfFile, .int (nI NF), it_nextLine])), (sk, .inr (9, [.ref b_y, sk_from, .ref fdA, .ref fcA, .ref dpA, sk_hashes, sk_byHash, sk_leansOn, sk_leantBy, .ref ch, sk_lines, .int (nI P)])), (b_y, .inl (cB, 290000, .inl f)), (fdA, .inl (cI, 502, .inl fdf)), (dpA, .inl (cI, 8400, .inl dpf)), (fcA, .inl (cI, 502, .inl fcf)), (ch, .inr (1, [.ref cat, ch_patch, .ref cfA, .ref flA, .ref adA, ch_files])), (cat, .inl (cI, 38000, .inl ca)), (cfA, .inl (cI, 38000, .inl cff)), (flA, .inl (cI, 38000, .inl flf)), (ln, .inr (4, [.ref laA, .ref llA, .ref lcA, .ref lpA, .ref luA, .ref ldA, .ref ofA, .int (nI (NLs f CA c0 NL0 j))])), (laA, .inl (cI, 4000, .inl lau)), (llA, .inl (cI, 4000, .inl llu)), (lcA, .inl (cI, 4000, .inl lcu)), (lpA, .inl (cI, 4000, .inl lpu)), (luA, .inl (cI, 4000, .inl luu)), (ldA, .inl (cI, 4000, .inl ldu)), (ofA, .inl (cI, 200, .inl ofu)), (adA, .inl (cI, 200, .inl adu))] → va_S A s.heap H locs → lv_has ls 3 [(0, .ref h), (1, .int (nI (c0 + j)))] → W p l e (headSpec ws_In_keepContents ({ frames := 5, cells := 0, slots := 0, locals := 300 })).room s m ([.ref h] : List Value).toArray below meth c H locs 0 0 Q (F0 m 16 ls []) := by
    intro n9
    induction n9 with
    | zero => intro j lau llu lcu lpu luu ldu ofu adu H locs ls hm; exact absurd hm (Nat.not_lt_zero _)
    | succ n9 ih_16 =>
      intro j lau llu lcu lpu luu ldu ofu adu H locs ls hm hj k1 k2 k3 k4 k5 hP hD hS hl
      have hNb := NLs_mono f CA c0 NL0 (i := j) (j := T) hj
      have hNb0 := NLs_mono f CA c0 NL0 (i := 0) (j := j) (Nat.zero_le _)
      have hNb0 : NL0 ≤ NLs f CA c0 NL0 j := hNb0
      have hFb := NFs_mono f CA c0 NF0 (i := 0) (j := j) (Nat.zero_le _)
      have hFb : NF0 ≤ NFs f CA c0 NF0 j := hFb
      refine lv_iload_n hx hb d_In_keepContents_16 rfl (lv_at hl 1 rfl) ?_
      refine lv_aload_n hx hb d_In_keepContents_17 rfl (lv_at hl 0 rfl) ?_
      refine va_get (D := (dC, dI)) (ci := 3) (v := .ref sk) (C := R_In) (T := F_In) (N := 9) hx hb hts i_In hown hK hP 0 rfl rfl 0 (by decide) (hts _ gw_284) (fun _ h9 => h9) rfl d_In_keepContents_18 ?_
      refine va_get (D := (dC, dI)) (ci := 9) (v := .ref fcA) (C := R_St) (T := F_St) (N := 12) hx hb hts i_St hown hK hP 1 rfl rfl 3 (by decide) (hts _ gw_200) (fun _ h9 => h9) rfl d_In_keepContents_21 ?_
      refine lv_aload_n hx hb d_In_keepContents_24 rfl (lv_at hl 0 rfl) ?_
      refine va_get (D := (dC, dI)) (ci := 3) (v := .ref sk) (C := R_In) (T := F_In) (N := 9) hx hb hts i_In hown hK hP 0 rfl rfl 0 (by decide) (hts _ gw_284) (fun _ h9 => h9) rfl d_In_keepContents_25 ?_
      refine va_get (D := (dC, dI)) (ci := 9) (v := .int (nI P)) (C := R_St) (T := F_St) (N := 12) hx hb hts i_St hown hK hP 1 rfl rfl 11 (by decide) (hts _ gw_238) (fun _ h9 => h9) rfl d_In_keepContents_28 ?_
      refine lv_iconst (v := 1) hx hb d_In_keepContents_31 (by decide) ?_
      refine lv_iadd hx hb d_In_keepContents_32 ?_
      refine lv_topi (fun x_2 ex_2 => ?_)
      obtain rfl : x_2 = nI (P + 1) := by rw [ex_2]; first | done | (exact nI_add _ _)
      refine va_iald hx hb hK hP 5 0 rfl rfl (vp_in_nI (by omega) (by omega)) d_In_keepContents_33 ?_
      rw [show (nI (P + 1)).toNatClampNeg = (P + 1) from nI_clamp (by omega)]
      refine lv_topi (fun x_3 ex_3 => ?_)
      obtain rfl : x_3 = nI (c0 + T) := by rw [ex_3]; first | done | (exact gT)
      refine lv_icmp_ge (tgt := 87) hx hb d_In_keepContents_34 (by decide) (fun c_34 => ?_) (fun c_34 => ?_)
      · have n_34 : (c0 + T) ≤ (c0 + j) := (nI_leI (a := (c0 + T)) (b := (c0 + j)) (by omega) (by omega)).mp c_34
        have hjT : j = T := by omega
        refine lv_aload_n hx hb d_In_keepContents_87 rfl (lv_at hl 0 rfl) ?_
        refine va_get (D := (dC, dI)) (ci := 3) (v := .ref ch) (C := R_In) (T := F_In) (N := 9) hx hb hts i_In hown hK hP 0 rfl rfl 1 (by decide) (hts _ gw_285) (fun _ h9 => h9) rfl d_In_keepContents_88 ?_
        refine lv_aload_n hx hb d_In_keepContents_91 rfl (lv_at hl 0 rfl) ?_
        refine va_get (D := (dC, dI)) (ci := 3) (v := .int (nI NF)) (C := R_In) (T := F_In) (N := 9) hx hb hts i_In hown hK hP 0 rfl rfl 7 (by decide) (hts _ gw_291) (fun _ h9 => h9) rfl d_In_keepContents_92 ?_
        refine va_put (D := (dC, dI)) (ci := 1) (v := .int (nI NF)) (ty := .int) (C := R_Ch) (T := F_Ch) (N := 6) hx hb hts i_Ch t_Ch t_Ch_ok n_Ch hown hK hP hD hS 6 rfl rfl 5 (by decide) (hts _ gw_112) (fun _ h9 => h9) rfl (by decide +kernel) rfl rfl (Nat.le_of_ble_eq_true rfl) d_In_keepContents_95 (fun H locs hP hD hS => ?_)
        have hP : va_P (dC, dI) classes [(h, .inr (3, [.ref sk, .ref ch, .ref ln, it_sha, it_form, it_named, it_linesOfFile, .int (nI NF), it_nextLine])), (sk, .inr (9, [.ref b_y, sk_from, .ref fdA, .ref fcA, .ref dpA, sk_hashes, sk_byHash, sk_leansOn, sk_leantBy, .ref ch, sk_lines, .int (nI P)])), (b_y, .inl (cB, 290000, .inl f)), (fdA, .inl (cI, 502, .inl fdf)), (dpA, .inl (cI, 8400, .inl dpf)), (fcA, .inl (cI, 502, .inl fcf)), (ch, .inr (1, [.ref cat, ch_patch, .ref cfA, .ref flA, .ref adA, .int (nI NF)])), (cat, .inl (cI, 38000, .inl ca)), (cfA, .inl (cI, 38000, .inl cff)), (flA, .inl (cI, 38000, .inl flf)), (ln, .inr (4, [.ref laA, .ref llA, .ref lcA, .ref lpA, .ref luA, .ref ldA, .ref ofA, .int (nI (NLs f CA c0 NL0 j))])), (laA, .inl (cI, 4000, .inl lau)), (llA, .inl (cI, 4000, .inl llu)), (lcA, .inl (cI, 4000, .inl lcu)), (lpA, .inl (cI, 4000, .inl lpu)), (luA, .inl (cI, 4000, .inl luu)), (ldA, .inl (cI, 4000, .inl ldu)), (ofA, .inl (cI, 200, .inl ofu)), (adA, .inl (cI, 200, .inl adu))] H := hP
        have hD : va_D A [(h, .inr (3, [.ref sk, .ref ch, .ref ln, it_sha, it_form, it_named, it_linesOfFile, .int (nI NF), it_nextLine])), (sk, .inr (9, [.ref b_y, sk_from, .ref fdA, .ref fcA, .ref dpA, sk_hashes, sk_byHash, sk_leansOn, sk_leantBy, .ref ch, sk_lines, .int (nI P)])), (b_y, .inl (cB, 290000, .inl f)), (fdA, .inl (cI, 502, .inl fdf)), (dpA, .inl (cI, 8400, .inl dpf)), (fcA, .inl (cI, 502, .inl fcf)), (ch, .inr (1, [.ref cat, ch_patch, .ref cfA, .ref flA, .ref adA, .int (nI NF)])), (cat, .inl (cI, 38000, .inl ca)), (cfA, .inl (cI, 38000, .inl cff)), (flA, .inl (cI, 38000, .inl flf)), (ln, .inr (4, [.ref laA, .ref llA, .ref lcA, .ref lpA, .ref luA, .ref ldA, .ref ofA, .int (nI (NLs f CA c0 NL0 j))])), (laA, .inl (cI, 4000, .inl lau)), (llA, .inl (cI, 4000, .inl llu)), (lcA, .inl (cI, 4000, .inl lcu)), (lpA, .inl (cI, 4000, .inl lpu)), (luA, .inl (cI, 4000, .inl luu)), (ldA, .inl (cI, 4000, .inl ldu)), (ofA, .inl (cI, 200, .inl ofu)), (adA, .inl (cI, 200, .inl adu))] := hD
        rw [← hQe]
        exact W.vret hx hb hr (fun t ht hW => ⟨⟨(lau, llu, lcu, lpu, luu, ldu, ofu, adu, (NLs f CA c0 NL0 j)), rfl, ⟨hjT ▸ k1, k2, hjT ▸ k3, hjT ▸ k4, k5, by rw [hjT]⟩, by rw [ht]; exact hP, va_K.moved hW.alike hK, hD⟩, hS.F ht⟩) hS.2.2 d_In_keepContents_98
      · have n_34 : (c0 + j) < (c0 + T) := Nat.lt_of_not_le (fun z => c_34 ((nI_leI (a := (c0 + T)) (b := (c0 + j)) (by omega) (by omega)).mpr z))
        obtain ⟨hga, hgb⟩ := gA (c0 + j) (by omega)
        obtain ⟨hgf, hgc⟩ := gF j (by omega)
        refine lv_aload_n hx hb d_In_keepContents_37 rfl (lv_at hl 0 rfl) ?_
        refine va_get (D := (dC, dI)) (ci := 3) (v := .ref sk) (C := R_In) (T := F_In) (N := 9) hx hb hts i_In hown hK hP 0 rfl rfl 0 (by decide) (hts _ gw_284) (fun _ h9 => h9) rfl d_In_keepContents_38 ?_
        refine lv_iload_n hx hb d_In_keepContents_41 rfl (lv_at hl 1 rfl) ?_
        have hPc := hP.sub (ws' := [(sk, .inr (9, [.ref b_y, sk_from, .ref fdA, .ref fcA, .ref dpA, sk_hashes, sk_byHash, sk_leansOn, sk_leantBy, .ref ch, sk_lines, .int (nI P)])), (b_y, .inl (cB, 290000, .inl f)), (ch, .inr (1, [.ref cat, ch_patch, .ref cfA, .ref flA, .ref adA, ch_files])), (cat, .inl (cI, 38000, .inl ca))]) [1, 2, 6, 7] rfl
        have hDc := hD.sub (ws' := [(sk, .inr (9, [.ref b_y, sk_from, .ref fdA, .ref fcA, .ref dpA, sk_hashes, sk_byHash, sk_leansOn, sk_leantBy, .ref ch, sk_lines, .int (nI P)])), (b_y, .inl (cB, 290000, .inl f)), (ch, .inr (1, [.ref cat, ch_patch, .ref cfA, .ref flA, .ref adA, ch_files])), (cat, .inl (cI, 38000, .inl ca))]) [1, 2, 6, 7] (by decide) rfl
        have hFc := va_free (wc := [(sk, .inr (9, [.ref b_y, sk_from, .ref fdA, .ref fcA, .ref dpA, sk_hashes, sk_byHash, sk_leansOn, sk_leantBy, .ref ch, sk_lines, .int (nI P)])), (b_y, .inl (cB, 290000, .inl f)), (ch, .inr (1, [.ref cat, ch_patch, .ref cfA, .ref flA, .ref adA, ch_files])), (cat, .inl (cI, 38000, .inl ca))]) hD hS hA [1, 2, 6, 7] rfl
        refine va_calli (va_runV (As := [.int (nI (c0 + j))]) (rest := []) ⟨hx, hb, hml, hown, hts⟩ (m_St_kind l dC dI cI cB cL cZ cR sk b_y ch cat (sk_from) (.ref fdA) (.ref fcA) (.ref dpA) (sk_hashes) (sk_byHash) (sk_leansOn) (sk_leantBy) (sk_lines) (.int (nI P)) (ch_patch) (.ref cfA) (.ref flA) (.ref adA) (ch_files) f ca (c0 + j) (CA (c0 + j)) H.size (by omega) hga (by omega)) (cwV 1 hts (xg_V gw_889 gw_890 gw_891 gw_3 gw_892) rfl rfl rfl (by decide +kernel) ⟨Nat.le_of_ble_eq_true rfl, Nat.le_of_ble_eq_true rfl⟩) ⟨xw_blind, va_recv hK hPc (ci := 9) (q0 := 0) rfl rfl, fun U hU hW => ⟨rfl, by rw [hU], by rw [hU]; exact hPc, va_K.moved hW.alike hK, hDc.weaken (fun _ _ _ _ => trivial)⟩⟩ rfl rfl hl.1 rfl (lv_room (Nat.le_of_ble_eq_true rfl)) d_In_keepContents_42 ⟨Nat.le_of_ble_eq_true rfl, Nat.le_of_ble_eq_true rfl⟩) hS (fun q _ h => hFc q h) hFc (fun r9 u t H1 locs ht hvm hw hB hz1 hk1 hS => ?_)
        obtain ⟨hP1, hK1, hD1⟩ := hB
        rw [ht] at hP1
        obtain ⟨hP, hD⟩ := va_join (wr := [(h, .inr (3, [.ref sk, .ref ch, .ref ln, it_sha, it_form, it_named, it_linesOfFile, .int (nI NF), it_nextLine])), (fdA, .inl (cI, 502, .inl fdf)), (dpA, .inl (cI, 8400, .inl dpf)), (fcA, .inl (cI, 502, .inl fcf)), (cfA, .inl (cI, 38000, .inl cff)), (flA, .inl (cI, 38000, .inl flf)), (ln, .inr (4, [.ref laA, .ref llA, .ref lcA, .ref lpA, .ref luA, .ref ldA, .ref ofA, .int (nI (NLs f CA c0 NL0 j))])), (laA, .inl (cI, 4000, .inl lau)), (llA, .inl (cI, 4000, .inl llu)), (lcA, .inl (cI, 4000, .inl lcu)), (lpA, .inl (cI, 4000, .inl lpu)), (luA, .inl (cI, 4000, .inl luu)), (ldA, .inl (cI, 4000, .inl ldu)), (ofA, .inl (cI, 200, .inl ofu)), (adA, .inl (cI, 200, .inl adu))]) (w1 := [(sk, .inr (9, [.ref b_y, sk_from, .ref fdA, .ref fcA, .ref dpA, sk_hashes, sk_byHash, sk_leansOn, sk_leantBy, .ref ch, sk_lines, .int (nI P)])), (b_y, .inl (cB, 290000, .inl f)), (ch, .inr (1, [.ref cat, ch_patch, .ref cfA, .ref flA, .ref adA, ch_files])), (cat, .inl (cI, 38000, .inl ca))]) hP hD [1, 2, 6, 7] [0, 3, 4, 5, 8, 9, 10, 11, 12, 13, 14, 15, 16, 17, 18] rfl rfl (by decide) (by decide) hk1 hFc hP1 hD1
        generalize H1 = H at hP hS ⊢
        have hP : va_P (dC, dI) classes [(h, .inr (3, [.ref sk, .ref ch, .ref ln, it_sha, it_form, it_named, it_linesOfFile, .int (nI NF), it_nextLine])), (fdA, .inl (cI, 502, .inl fdf)), (dpA, .inl (cI, 8400, .inl dpf)), (fcA, .inl (cI, 502, .inl fcf)), (cfA, .inl (cI, 38000, .inl cff)), (flA, .inl (cI, 38000, .inl flf)), (ln, .inr (4, [.ref laA, .ref llA, .ref lcA, .ref lpA, .ref luA, .ref ldA, .ref ofA, .int (nI (NLs f CA c0 NL0 j))])), (laA, .inl (cI, 4000, .inl lau)), (llA, .inl (cI, 4000, .inl llu)), (lcA, .inl (cI, 4000, .inl lcu)), (lpA, .inl (cI, 4000, .inl lpu)), (luA, .inl (cI, 4000, .inl luu)), (ldA, .inl (cI, 4000, .inl ldu)), (ofA, .inl (cI, 200, .inl ofu)), (adA, .inl (cI, 200, .inl adu)), (sk, .inr (9, [.ref b_y, sk_from, .ref fdA, .ref fcA, .ref dpA, sk_hashes, sk_byHash, sk_leansOn, sk_leantBy, .ref ch, sk_lines, .int (nI P)])), (b_y, .inl (cB, 290000, .inl f)), (ch, .inr (1, [.ref cat, ch_patch, .ref cfA, .ref flA, .ref adA, ch_files])), (cat, .inl (cI, 38000, .inl ca))] H := hP
        have hD : va_D A [(h, .inr (3, [.ref sk, .ref ch, .ref ln, it_sha, it_form, it_named, it_linesOfFile, .int (nI NF), it_nextLine])), (fdA, .inl (cI, 502, .inl fdf)), (dpA, .inl (cI, 8400, .inl dpf)), (fcA, .inl (cI, 502, .inl fcf)), (cfA, .inl (cI, 38000, .inl cff)), (flA, .inl (cI, 38000, .inl flf)), (ln, .inr (4, [.ref laA, .ref llA, .ref lcA, .ref lpA, .ref luA, .ref ldA, .ref ofA, .int (nI (NLs f CA c0 NL0 j))])), (laA, .inl (cI, 4000, .inl lau)), (llA, .inl (cI, 4000, .inl llu)), (lcA, .inl (cI, 4000, .inl lcu)), (lpA, .inl (cI, 4000, .inl lpu)), (luA, .inl (cI, 4000, .inl luu)), (ldA, .inl (cI, 4000, .inl ldu)), (ofA, .inl (cI, 200, .inl ofu)), (adA, .inl (cI, 200, .inl adu)), (sk, .inr (9, [.ref b_y, sk_from, .ref fdA, .ref fcA, .ref dpA, sk_hashes, sk_byHash, sk_leansOn, sk_leantBy, .ref ch, sk_lines, .int (nI P)])), (b_y, .inl (cB, 290000, .inl f)), (ch, .inr (1, [.ref cat, ch_patch, .ref cfA, .ref flA, .ref adA, ch_files])), (cat, .inl (cI, 38000, .inl ca))] := hD
        subst hw
        refine lv_istore_n (lv' := [(2, .int (f (CA (c0 + j)))), (0, .ref h), (1, .int (nI (c0 + j)))]) hx hb d_In_keepContents_45 rfl hl (by decide) rfl (fun ls hl => ?_)
        refine lv_iload_n hx hb d_In_keepContents_46 rfl (lv_at hl 0 rfl) ?_
        refine lv_if_ne (tgt := 71) hx hb d_In_keepContents_47 (by decide) (fun c_47 => ?_) (fun c_47 => ?_)
        · have hn0 : ¬ f (CA (c0 + j)) = 0 := c_47
          refine lv_iload_n hx hb d_In_keepContents_71 rfl (lv_at hl 0 rfl) ?_
          refine lv_iconst (v := 2) hx hb d_In_keepContents_72 (by decide) ?_
          refine lv_icmp_ne (tgt := 81) hx hb d_In_keepContents_73 (by decide) (fun c_73 => ?_) (fun c_73 => ?_)
          · refine lv_iinc (v := nI (c0 + j + 1)) (lv' := [(1, .int (nI (c0 + j + 1))), (2, .int (f (CA (c0 + j)))), (0, .ref h)]) hx hb d_In_keepContents_81 hl (k := 2) rfl (by exact nI_add _ _) (by decide) rfl (fun ls hl => ?_)
            refine lv_goto (tgt := 16) hx hb d_In_keepContents_84 (by decide) ?_
            rw [show nI (NLs f CA c0 NL0 j) = nI (NLs f CA c0 NL0 (j + 1)) from congrArg nI (NLs_ne c_73).symm] at hP hD
            exact ih_16 (j + 1) lau llu lcu lpu luu ldu ofu adu _ _ _ (by omega) (by omega) (fun i z q => if e9 : i = j then absurd (e9 ▸ q) c_73 else k1 i (by omega) q) (k2) (by rw [lcs_ne c_73]; exact k3) (fun i z q => if e9 : i = j then absurd (e9 ▸ q) hn0 else k4 i (by omega) q) (k5) (hP.sub [0, 15, 16, 1, 2, 3, 17, 18, 4, 5, 6, 7, 8, 9, 10, 11, 12, 13, 14] rfl) (hD.sub [0, 15, 16, 1, 2, 3, 17, 18, 4, 5, 6, 7, 8, 9, 10, 11, 12, 13, 14] (by decide) rfl) hS (lv_sub hl [2, 0] rfl)
          · refine lv_aload_n hx hb d_In_keepContents_76 rfl (lv_at hl 1 rfl) ?_
            refine lv_iload_n hx hb d_In_keepContents_77 rfl (lv_at hl 2 rfl) ?_
            have hvv := gV (c0 + j) (by omega) (by omega)
            have hv2 := hvv.2.2.2.1 c_73
            have hNs := NLs_mono f CA c0 NL0 (i := j + 1) (j := T) (by omega)
            rw [NLs_eq c_73] at hNs
            have hPc := hP.sub (ws' := [(h, .inr (3, [.ref sk, .ref ch, .ref ln, it_sha, it_form, it_named, it_linesOfFile, .int (nI NF), it_nextLine])), (sk, .inr (9, [.ref b_y, sk_from, .ref fdA, .ref fcA, .ref dpA, sk_hashes, sk_byHash, sk_leansOn, sk_leantBy, .ref ch, sk_lines, .int (nI P)])), (b_y, .inl (cB, 290000, .inl f)), (fdA, .inl (cI, 502, .inl fdf)), (dpA, .inl (cI, 8400, .inl dpf)), (fcA, .inl (cI, 502, .inl fcf)), (ch, .inr (1, [.ref cat, ch_patch, .ref cfA, .ref flA, .ref adA, ch_files])), (cat, .inl (cI, 38000, .inl ca)), (cfA, .inl (cI, 38000, .inl cff)), (flA, .inl (cI, 38000, .inl flf)), (ln, .inr (4, [.ref laA, .ref llA, .ref lcA, .ref lpA, .ref luA, .ref ldA, .ref ofA, .int (nI (NLs f CA c0 NL0 j))])), (laA, .inl (cI, 4000, .inl lau)), (llA, .inl (cI, 4000, .inl llu)), (lcA, .inl (cI, 4000, .inl lcu)), (lpA, .inl (cI, 4000, .inl lpu)), (luA, .inl (cI, 4000, .inl luu)), (ldA, .inl (cI, 4000, .inl ldu)), (ofA, .inl (cI, 200, .inl ofu))]) [0, 15, 16, 1, 2, 3, 17, 18, 4, 5, 6, 7, 8, 9, 10, 11, 12, 13] rfl
            have hDc := hD.sub (ws' := [(h, .inr (3, [.ref sk, .ref ch, .ref ln, it_sha, it_form, it_named, it_linesOfFile, .int (nI NF), it_nextLine])), (sk, .inr (9, [.ref b_y, sk_from, .ref fdA, .ref fcA, .ref dpA, sk_hashes, sk_byHash, sk_leansOn, sk_leantBy, .ref ch, sk_lines, .int (nI P)])), (b_y, .inl (cB, 290000, .inl f)), (fdA, .inl (cI, 502, .inl fdf)), (dpA, .inl (cI, 8400, .inl dpf)), (fcA, .inl (cI, 502, .inl fcf)), (ch, .inr (1, [.ref cat, ch_patch, .ref cfA, .ref flA, .ref adA, ch_files])), (cat, .inl (cI, 38000, .inl ca)), (cfA, .inl (cI, 38000, .inl cff)), (flA, .inl (cI, 38000, .inl flf)), (ln, .inr (4, [.ref laA, .ref llA, .ref lcA, .ref lpA, .ref luA, .ref ldA, .ref ofA, .int (nI (NLs f CA c0 NL0 j))])), (laA, .inl (cI, 4000, .inl lau)), (llA, .inl (cI, 4000, .inl llu)), (lcA, .inl (cI, 4000, .inl lcu)), (lpA, .inl (cI, 4000, .inl lpu)), (luA, .inl (cI, 4000, .inl luu)), (ldA, .inl (cI, 4000, .inl ldu)), (ofA, .inl (cI, 200, .inl ofu))]) [0, 15, 16, 1, 2, 3, 17, 18, 4, 5, 6, 7, 8, 9, 10, 11, 12, 13] (by decide) rfl
            have hFc := va_free (wc := [(h, .inr (3, [.ref sk, .ref ch, .ref ln, it_sha, it_form, it_named, it_linesOfFile, .int (nI NF), it_nextLine])), (sk, .inr (9, [.ref b_y, sk_from, .ref fdA, .ref fcA, .ref dpA, sk_hashes, sk_byHash, sk_leansOn, sk_leantBy, .ref ch, sk_lines, .int (nI P)])), (b_y, .inl (cB, 290000, .inl f)), (fdA, .inl (cI, 502, .inl fdf)), (dpA, .inl (cI, 8400, .inl dpf)), (fcA, .inl (cI, 502, .inl fcf)), (ch, .inr (1, [.ref cat, ch_patch, .ref cfA, .ref flA, .ref adA, ch_files])), (cat, .inl (cI, 38000, .inl ca)), (cfA, .inl (cI, 38000, .inl cff)), (flA, .inl (cI, 38000, .inl flf)), (ln, .inr (4, [.ref laA, .ref llA, .ref lcA, .ref lpA, .ref luA, .ref ldA, .ref ofA, .int (nI (NLs f CA c0 NL0 j))])), (laA, .inl (cI, 4000, .inl lau)), (llA, .inl (cI, 4000, .inl llu)), (lcA, .inl (cI, 4000, .inl lcu)), (lpA, .inl (cI, 4000, .inl lpu)), (luA, .inl (cI, 4000, .inl luu)), (ldA, .inl (cI, 4000, .inl ldu)), (ofA, .inl (cI, 200, .inl ofu))]) hD hS hA [0, 15, 16, 1, 2, 3, 17, 18, 4, 5, 6, 7, 8, 9, 10, 11, 12, 13] rfl
            refine va_callv (va_runV (As := [.int (nI (c0 + j))]) (rest := []) ⟨hx, hb, hml, hown, hts⟩ (m_In_keepLines l dC dI cI cB cL cZ cR h sk b_y fdA dpA fcA ch cat cfA flA ln laA llA lcA lpA luA ldA ofA (it_sha) (it_form) (it_named) (it_linesOfFile) (.int (nI NF)) (it_nextLine) (sk_from) (sk_hashes) (sk_byHash) (sk_leansOn) (sk_leantBy) (sk_lines) (ch_patch) (.ref adA) (ch_files)  f fdf dpf fcf ca cff flf lau llu lcu lpu luu ldu ofu DP FC CA CF (clX f CA CL c0 NL0) (lcs f CA CF c0 j LO) P D0 nd (c0 + j) (NLs f CA c0 NL0 j) (CF (c0 + j)) H.size hP5 gE0 hnd hDr gD gC (by omega) (fun i z => Nat.le_trans (gL i z) (by omega)) (fun i z q => gCL i (by omega) q) (rsR_2 c_73 (hrs j (by omega))) hga hv2.1 hv2.2.1 hv2.2.2 (gP (c0 + j) (by omega) (by omega) c_73) (by omega) (gF j (by omega)) (k3 _ (gF j (by omega)).2)) (cwV 1 hts (xg_V gw_957 gw_959 (xg_p 32 (q := (⟨"PatchStore$Intake", "keepLines", "(I)V"⟩, 9)) (by decide +kernel)) gw_6 gw_960) rfl rfl rfl (by decide +kernel) ⟨Nat.le_of_ble_eq_true rfl, Nat.le_of_ble_eq_true rfl⟩) ⟨xw_blind, va_recv hK hPc (ci := 3) (q0 := 0) rfl rfl, fun U hU hW => ⟨rfl, by rw [hU], by rw [hU]; exact hPc, va_K.moved hW.alike hK, hDc.weaken (fun _ _ _ _ => trivial)⟩⟩ rfl rfl hl.1 rfl (lv_room (Nat.le_of_ble_eq_true rfl)) d_In_keepContents_78 ⟨Nat.le_of_ble_eq_true rfl, Nat.le_of_ble_eq_true rfl⟩) hS (fun q _ h => hFc q h) hFc (fun ula t H1 locs ht hvm hw hB hz1 hk1 hS => ?_)
            obtain ⟨ula, ull, ulc, ulp, ulu, uld, uof, ut⟩ := ula
            dsimp only at hw
            obtain ⟨hP1, hK1, hD1⟩ := hB
            rw [ht] at hP1
            obtain ⟨hP, hD⟩ := va_join (wr := [(adA, .inl (cI, 200, .inl adu))]) (w1 := [(h, .inr (3, [.ref sk, .ref ch, .ref ln, it_sha, it_form, it_named, it_linesOfFile, .int (nI NF), it_nextLine])), (sk, .inr (9, [.ref b_y, sk_from, .ref fdA, .ref fcA, .ref dpA, sk_hashes, sk_byHash, sk_leansOn, sk_leantBy, .ref ch, sk_lines, .int (nI P)])), (b_y, .inl (cB, 290000, .inl f)), (fdA, .inl (cI, 502, .inl fdf)), (dpA, .inl (cI, 8400, .inl dpf)), (fcA, .inl (cI, 502, .inl fcf)), (ch, .inr (1, [.ref cat, ch_patch, .ref cfA, .ref flA, .ref adA, ch_files])), (cat, .inl (cI, 38000, .inl ca)), (cfA, .inl (cI, 38000, .inl cff)), (flA, .inl (cI, 38000, .inl flf)), (ln, .inr (4, [.ref laA, .ref llA, .ref lcA, .ref lpA, .ref luA, .ref ldA, .ref ofA, .int (nI ut)])), (laA, .inl (cI, 4000, .inl ula)), (llA, .inl (cI, 4000, .inl ull)), (lcA, .inl (cI, 4000, .inl ulc)), (lpA, .inl (cI, 4000, .inl ulp)), (luA, .inl (cI, 4000, .inl ulu)), (ldA, .inl (cI, 4000, .inl uld)), (ofA, .inl (cI, 200, .inl uof))]) hP hD [0, 15, 16, 1, 2, 3, 17, 18, 4, 5, 6, 7, 8, 9, 10, 11, 12, 13] [14] rfl rfl (by decide) (by decide) hk1 hFc hP1 hD1
            generalize H1 = H at hP hS ⊢
            have hP : va_P (dC, dI) classes [(adA, .inl (cI, 200, .inl adu)), (h, .inr (3, [.ref sk, .ref ch, .ref ln, it_sha, it_form, it_named, it_linesOfFile, .int (nI NF), it_nextLine])), (sk, .inr (9, [.ref b_y, sk_from, .ref fdA, .ref fcA, .ref dpA, sk_hashes, sk_byHash, sk_leansOn, sk_leantBy, .ref ch, sk_lines, .int (nI P)])), (b_y, .inl (cB, 290000, .inl f)), (fdA, .inl (cI, 502, .inl fdf)), (dpA, .inl (cI, 8400, .inl dpf)), (fcA, .inl (cI, 502, .inl fcf)), (ch, .inr (1, [.ref cat, ch_patch, .ref cfA, .ref flA, .ref adA, ch_files])), (cat, .inl (cI, 38000, .inl ca)), (cfA, .inl (cI, 38000, .inl cff)), (flA, .inl (cI, 38000, .inl flf)), (ln, .inr (4, [.ref laA, .ref llA, .ref lcA, .ref lpA, .ref luA, .ref ldA, .ref ofA, .int (nI ut)])), (laA, .inl (cI, 4000, .inl ula)), (llA, .inl (cI, 4000, .inl ull)), (lcA, .inl (cI, 4000, .inl ulc)), (lpA, .inl (cI, 4000, .inl ulp)), (luA, .inl (cI, 4000, .inl ulu)), (ldA, .inl (cI, 4000, .inl uld)), (ofA, .inl (cI, 200, .inl uof))] H := hP
            have hD : va_D A [(adA, .inl (cI, 200, .inl adu)), (h, .inr (3, [.ref sk, .ref ch, .ref ln, it_sha, it_form, it_named, it_linesOfFile, .int (nI NF), it_nextLine])), (sk, .inr (9, [.ref b_y, sk_from, .ref fdA, .ref fcA, .ref dpA, sk_hashes, sk_byHash, sk_leansOn, sk_leantBy, .ref ch, sk_lines, .int (nI P)])), (b_y, .inl (cB, 290000, .inl f)), (fdA, .inl (cI, 502, .inl fdf)), (dpA, .inl (cI, 8400, .inl dpf)), (fcA, .inl (cI, 502, .inl fcf)), (ch, .inr (1, [.ref cat, ch_patch, .ref cfA, .ref flA, .ref adA, ch_files])), (cat, .inl (cI, 38000, .inl ca)), (cfA, .inl (cI, 38000, .inl cff)), (flA, .inl (cI, 38000, .inl flf)), (ln, .inr (4, [.ref laA, .ref llA, .ref lcA, .ref lpA, .ref luA, .ref ldA, .ref ofA, .int (nI ut)])), (laA, .inl (cI, 4000, .inl ula)), (llA, .inl (cI, 4000, .inl ull)), (lcA, .inl (cI, 4000, .inl ulc)), (lpA, .inl (cI, 4000, .inl ulp)), (luA, .inl (cI, 4000, .inl ulu)), (ldA, .inl (cI, 4000, .inl uld)), (ofA, .inl (cI, 200, .inl uof))] := hD
            rcases hw with ⟨q1, q2, q3, q4, q5, q6, rfl, rfl⟩
            · have hP : va_P (dC, dI) classes [(adA, .inl (cI, 200, .inl adu)), (h, .inr (3, [.ref sk, .ref ch, .ref ln, it_sha, it_form, it_named, it_linesOfFile, .int (nI NF), it_nextLine])), (sk, .inr (9, [.ref b_y, sk_from, .ref fdA, .ref fcA, .ref dpA, sk_hashes, sk_byHash, sk_leansOn, sk_leantBy, .ref ch, sk_lines, .int (nI P)])), (b_y, .inl (cB, 290000, .inl f)), (fdA, .inl (cI, 502, .inl fdf)), (dpA, .inl (cI, 8400, .inl dpf)), (fcA, .inl (cI, 502, .inl fcf)), (ch, .inr (1, [.ref cat, ch_patch, .ref cfA, .ref flA, .ref adA, ch_files])), (cat, .inl (cI, 38000, .inl ca)), (cfA, .inl (cI, 38000, .inl cff)), (flA, .inl (cI, 38000, .inl flf)), (ln, .inr (4, [.ref laA, .ref llA, .ref lcA, .ref lpA, .ref luA, .ref ldA, .ref ofA, .int (nI ((NLs f CA c0 NL0 j) + tw f (lnAt f (CA (c0 + j)))))])), (laA, .inl (cI, 4000, .inl ula)), (llA, .inl (cI, 4000, .inl ull)), (lcA, .inl (cI, 4000, .inl ulc)), (lpA, .inl (cI, 4000, .inl ulp)), (luA, .inl (cI, 4000, .inl ulu)), (ldA, .inl (cI, 4000, .inl uld)), (ofA, .inl (cI, 200, .inl (upd ofu (CF (c0 + j)) (nI ((lcs f CA CF c0 j LO (CF (c0 + j))) + tw f (lnAt f (CA (c0 + j))))))))] H := hP
              have hD : va_D A [(adA, .inl (cI, 200, .inl adu)), (h, .inr (3, [.ref sk, .ref ch, .ref ln, it_sha, it_form, it_named, it_linesOfFile, .int (nI NF), it_nextLine])), (sk, .inr (9, [.ref b_y, sk_from, .ref fdA, .ref fcA, .ref dpA, sk_hashes, sk_byHash, sk_leansOn, sk_leantBy, .ref ch, sk_lines, .int (nI P)])), (b_y, .inl (cB, 290000, .inl f)), (fdA, .inl (cI, 502, .inl fdf)), (dpA, .inl (cI, 8400, .inl dpf)), (fcA, .inl (cI, 502, .inl fcf)), (ch, .inr (1, [.ref cat, ch_patch, .ref cfA, .ref flA, .ref adA, ch_files])), (cat, .inl (cI, 38000, .inl ca)), (cfA, .inl (cI, 38000, .inl cff)), (flA, .inl (cI, 38000, .inl flf)), (ln, .inr (4, [.ref laA, .ref llA, .ref lcA, .ref lpA, .ref luA, .ref ldA, .ref ofA, .int (nI ((NLs f CA c0 NL0 j) + tw f (lnAt f (CA (c0 + j)))))])), (laA, .inl (cI, 4000, .inl ula)), (llA, .inl (cI, 4000, .inl ull)), (lcA, .inl (cI, 4000, .inl ulc)), (lpA, .inl (cI, 4000, .inl ulp)), (luA, .inl (cI, 4000, .inl ulu)), (ldA, .inl (cI, 4000, .inl uld)), (ofA, .inl (cI, 200, .inl (upd ofu (CF (c0 + j)) (nI ((lcs f CA CF c0 j LO (CF (c0 + j))) + tw f (lnAt f (CA (c0 + j))))))))] := hD
              refine lv_iinc (v := nI (c0 + j + 1)) (lv' := [(1, .int (nI (c0 + j + 1))), (2, .int (f (CA (c0 + j)))), (0, .ref h)]) hx hb d_In_keepContents_81 hl (k := 2) rfl (by exact nI_add _ _) (by decide) rfl (fun ls hl => ?_)
              refine lv_goto (tgt := 16) hx hb d_In_keepContents_84 (by decide) ?_
              rw [show nI ((NLs f CA c0 NL0 j) + tw f (lnAt f (CA (c0 + j)))) = nI (NLs f CA c0 NL0 (j + 1)) from congrArg nI (NLs_eq c_73).symm] at hP hD
              exact ih_16 (j + 1) ula ull ulc ulp ulu uld (upd ofu (CF (c0 + j)) (nI ((lcs f CA CF c0 j LO (CF (c0 + j))) + tw f (lnAt f (CA (c0 + j)))))) adu _ _ _ (by omega) (by omega) (fun i z q => if e9 : i = j then by subst e9; exact fun r z9 => ⟨q1 r z9, q2 r z9, q3 r z9, q4 r z9, q5 r z9⟩ else (k1 i (by omega) q).same q6 (by rw [← NLs_eq q]; exact NLs_mono f CA c0 NL0 (by omega))) (fun q z => by obtain ⟨z1, z2, z3, z4, z5, z6⟩ := q6 q (by omega); rw [z1, z2, z3, z4, z5, z6]; exact k2 q z) (lcs_up c_73 k3 (by rw [← lcs_at c_73]; exact hff j (by omega) c_73)) (fun i z q => if e9 : i = j then absurd (e9 ▸ q) hn0 else k4 i (by omega) q) (k5) (hP.sub [1, 2, 3, 4, 5, 6, 7, 8, 9, 10, 11, 12, 13, 14, 15, 16, 17, 18, 0] rfl) (hD.sub [1, 2, 3, 4, 5, 6, 7, 8, 9, 10, 11, 12, 13, 14, 15, 16, 17, 18, 0] (by decide) rfl) hS (lv_sub hl [2, 0] rfl)
        · have hn2 : ¬ f (CA (c0 + j)) = 2 := by rw [c_47]; decide
          have hcf0 : CF (c0 + j) = NFs f CA c0 NF0 j := rsR_0 c_47 (hrs j (by omega))
          refine lv_aload_n hx hb d_In_keepContents_50 rfl (lv_at hl 1 rfl) ?_
          refine va_get (D := (dC, dI)) (ci := 3) (v := .ref ch) (C := R_In) (T := F_In) (N := 9) hx hb hts i_In hown hK hP 0 rfl rfl 1 (by decide) (hts _ gw_285) (fun _ h9 => h9) rfl d_In_keepContents_51 ?_
          refine va_get (D := (dC, dI)) (ci := 1) (v := .ref adA) (C := R_Ch) (T := F_Ch) (N := 6) hx hb hts i_Ch hown hK hP 17 rfl rfl 4 (by decide) (hts _ gw_111) (fun _ h9 => h9) rfl d_In_keepContents_54 ?_
          refine lv_aload_n hx hb d_In_keepContents_57 rfl (lv_at hl 1 rfl) ?_
          refine va_get (D := (dC, dI)) (ci := 3) (v := .ref ch) (C := R_In) (T := F_In) (N := 9) hx hb hts i_In hown hK hP 0 rfl rfl 1 (by decide) (hts _ gw_285) (fun _ h9 => h9) rfl d_In_keepContents_58 ?_
          refine va_get (D := (dC, dI)) (ci := 1) (v := .ref cfA) (C := R_Ch) (T := F_Ch) (N := 6) hx hb hts i_Ch hown hK hP 17 rfl rfl 2 (by decide) (hts _ gw_102) (fun _ h9 => h9) rfl d_In_keepContents_61 ?_
          refine lv_iload_n hx hb d_In_keepContents_64 rfl (lv_at hl 2 rfl) ?_
          refine va_iald hx hb hK hP 4 0 rfl rfl (vp_in_nI (by omega) (by omega)) d_In_keepContents_65 ?_
          rw [show (nI (c0 + j)).toNatClampNeg = (c0 + j) from nI_clamp (by omega)]
          refine lv_topi (fun x_4 ex_4 => ?_)
          obtain rfl : x_4 = nI (CF (c0 + j)) := by rw [ex_4]; first | done | (exact hgf)
          refine lv_iload_n hx hb d_In_keepContents_66 rfl (lv_at hl 2 rfl) ?_
          refine va_iast hx hb hK hP hD hS 14 0 rfl rfl (vp_in_nI (by omega) (by omega)) d_In_keepContents_67 (fun H locs hP hD hS => ?_)
          rw [show (nI (CF (c0 + j))).toNatClampNeg = (CF (c0 + j)) from nI_clamp (by omega)] at hP hD
          have hP : va_P (dC, dI) classes [(h, .inr (3, [.ref sk, .ref ch, .ref ln, it_sha, it_form, it_named, it_linesOfFile, .int (nI NF), it_nextLine])), (fdA, .inl (cI, 502, .inl fdf)), (dpA, .inl (cI, 8400, .inl dpf)), (fcA, .inl (cI, 502, .inl fcf)), (cfA, .inl (cI, 38000, .inl cff)), (flA, .inl (cI, 38000, .inl flf)), (ln, .inr (4, [.ref laA, .ref llA, .ref lcA, .ref lpA, .ref luA, .ref ldA, .ref ofA, .int (nI (NLs f CA c0 NL0 j))])), (laA, .inl (cI, 4000, .inl lau)), (llA, .inl (cI, 4000, .inl llu)), (lcA, .inl (cI, 4000, .inl lcu)), (lpA, .inl (cI, 4000, .inl lpu)), (luA, .inl (cI, 4000, .inl luu)), (ldA, .inl (cI, 4000, .inl ldu)), (ofA, .inl (cI, 200, .inl ofu)), (adA, .inl (cI, 200, .inl (upd adu (CF (c0 + j)) (nI (c0 + j))))), (sk, .inr (9, [.ref b_y, sk_from, .ref fdA, .ref fcA, .ref dpA, sk_hashes, sk_byHash, sk_leansOn, sk_leantBy, .ref ch, sk_lines, .int (nI P)])), (b_y, .inl (cB, 290000, .inl f)), (ch, .inr (1, [.ref cat, ch_patch, .ref cfA, .ref flA, .ref adA, ch_files])), (cat, .inl (cI, 38000, .inl ca))] H := hP
          have hD : va_D A [(h, .inr (3, [.ref sk, .ref ch, .ref ln, it_sha, it_form, it_named, it_linesOfFile, .int (nI NF), it_nextLine])), (fdA, .inl (cI, 502, .inl fdf)), (dpA, .inl (cI, 8400, .inl dpf)), (fcA, .inl (cI, 502, .inl fcf)), (cfA, .inl (cI, 38000, .inl cff)), (flA, .inl (cI, 38000, .inl flf)), (ln, .inr (4, [.ref laA, .ref llA, .ref lcA, .ref lpA, .ref luA, .ref ldA, .ref ofA, .int (nI (NLs f CA c0 NL0 j))])), (laA, .inl (cI, 4000, .inl lau)), (llA, .inl (cI, 4000, .inl llu)), (lcA, .inl (cI, 4000, .inl lcu)), (lpA, .inl (cI, 4000, .inl lpu)), (luA, .inl (cI, 4000, .inl luu)), (ldA, .inl (cI, 4000, .inl ldu)), (ofA, .inl (cI, 200, .inl ofu)), (adA, .inl (cI, 200, .inl (upd adu (CF (c0 + j)) (nI (c0 + j))))), (sk, .inr (9, [.ref b_y, sk_from, .ref fdA, .ref fcA, .ref dpA, sk_hashes, sk_byHash, sk_leansOn, sk_leantBy, .ref ch, sk_lines, .int (nI P)])), (b_y, .inl (cB, 290000, .inl f)), (ch, .inr (1, [.ref cat, ch_patch, .ref cfA, .ref flA, .ref adA, ch_files])), (cat, .inl (cI, 38000, .inl ca))] := hD
          refine lv_goto (tgt := 81) hx hb d_In_keepContents_68 (by decide) ?_
          refine lv_iinc (v := nI (c0 + j + 1)) (lv' := [(1, .int (nI (c0 + j + 1))), (2, .int (f (CA (c0 + j)))), (0, .ref h)]) hx hb d_In_keepContents_81 hl (k := 2) rfl (by exact nI_add _ _) (by decide) rfl (fun ls hl => ?_)
          refine lv_goto (tgt := 16) hx hb d_In_keepContents_84 (by decide) ?_
          rw [show nI (NLs f CA c0 NL0 j) = nI (NLs f CA c0 NL0 (j + 1)) from congrArg nI (NLs_ne hn2).symm] at hP hD
          exact ih_16 (j + 1) lau llu lcu lpu luu ldu ofu (upd adu (CF (c0 + j)) (nI (c0 + j))) _ _ _ (by omega) (by omega) (fun i z q => if e9 : i = j then absurd (e9 ▸ q) hn2 else k1 i (by omega) q) (k2) (by rw [lcs_ne hn2]; exact k3) (by rw [hcf0]; exact fun i z q => if e9 : i = j then by rw [e9, upd_eq] else adK k4 i (by omega) q) (fun i z => (upd_ne _ (by omega)).trans (k5 i z)) (hP.sub [0, 15, 16, 1, 2, 3, 17, 18, 4, 5, 6, 7, 8, 9, 10, 11, 12, 13, 14] rfl) (hD.sub [0, 15, 16, 1, 2, 3, 17, 18, 4, 5, 6, 7, 8, 9, 10, 11, 12, 13, 14] (by decide) rfl) hS (lv_sub hl [2, 0] rfl)
  exact loop_16 _ 0 laf llf lcf lpf luf ldf off adf _ _ _ (Nat.lt_succ_self _) (Nat.zero_le _) (fun i z => absurd z (Nat.not_lt_zero _)) (fun _ _ => ⟨rfl, rfl, rfl, rfl, rfl, rfl⟩) (gO) (fun i z => absurd z (Nat.not_lt_zero _)) (fun _ _ => rfl) hP hD hS (lv_sub hl [1, 0] rfl)
end
section
/-! 75.keep.lean.txt -/
theorem gw_971 : (Jvm.Cond.methodLink "PatchStore$Stock" (119 : Nat) ({ cls := "PatchStore$Stock", name := "leans", desc := "(II)Z" } : Jvm.MethodName)) ∈ xg_1 := xg_s5 11 rfl rfl
theorem gw_972 : (Jvm.Cond.instanceMethod ({ cls := "PatchStore$Stock", name := "leans", desc := "(II)Z" } : Jvm.MethodName)) ∈ xg_1 := xg_s5 12 rfl rfl
theorem gw_973 : (Jvm.Cond.selects "PatchStore$Stock" ({ cls := "PatchStore$Stock", name := "leans", desc := "(II)Z" } : Jvm.MethodName) ({ cls := "PatchStore$Stock", name := "leans", desc := "(II)Z" } : Jvm.MethodName)) ∈ xg_1 := xg_s5 13 rfl rfl
theorem gw_974 : (Jvm.Cond.code ({ cls := "PatchStore$Stock", name := "leans", desc := "(II)Z" } : Jvm.MethodName) prog_10_method_16_code (3 : Nat) (Option.some Jvm.ClassFile.FieldType.boolean)) ∈ xg_1 := xg_s5 14 rfl rfl
def y_St_keep : MethodName := ⟨"PatchStore$Stock", "keep", "()V"⟩
abbrev c_St_keep : Cond := (Jvm.Cond.code ({ cls := "PatchStore$Stock", name := "keep", desc := "()V" } : Jvm.MethodName) prog_10_method_18_code (7 : Nat) (Option.none : Option Jvm.ClassFile.FieldType))
abbrev ws_St_keep : List Cond := c_St_keep :: xg_1
theorem d_St_keep_0 : decode prog_10_method_18_code 0 = .ok (.aload_n 0, 1) := by decide +kernel
theorem d_St_keep_1 : decode prog_10_method_18_code 1 = .ok (.getfield 56, 3) := by decide +kernel
theorem d_St_keep_4 : decode prog_10_method_18_code 4 = .ok (.istore_n 1, 1) := by decide +kernel
theorem d_St_keep_5 : decode prog_10_method_18_code 5 = .ok (.aload_n 0, 1) := by decide +kernel
theorem d_St_keep_6 : decode prog_10_method_18_code 6 = .ok (.aload_n 0, 1) := by decide +kernel
theorem d_St_keep_7 : decode prog_10_method_18_code 7 = .ok (.getfield 29, 3) := by decide +kernel
theorem d_St_keep_10 : decode prog_10_method_18_code 10 = .ok (.iload_n 1, 1) := by decide +kernel
theorem d_St_keep_11 : decode prog_10_method_18_code 11 = .ok (.bipush 32, 2) := by decide +kernel
theorem d_St_keep_13 : decode prog_10_method_18_code 13 = .ok (.imul, 1) := by decide +kernel
theorem d_St_keep_14 : decode prog_10_method_18_code 14 = .ok (.invokevirtual 109, 3) := by decide +kernel
theorem d_St_keep_17 : decode prog_10_method_18_code 17 = .ok (.istore_n 2, 1) := by decide +kernel
theorem d_St_keep_18 : decode prog_10_method_18_code 18 = .ok (.aload_n 0, 1) := by decide +kernel
theorem d_St_keep_19 : decode prog_10_method_18_code 19 = .ok (.getfield 32, 3) := by decide +kernel
theorem d_St_keep_22 : decode prog_10_method_18_code 22 = .ok (.iload_n 2, 1) := by decide +kernel
theorem d_St_keep_23 : decode prog_10_method_18_code 23 = .ok (.aload_n 0, 1) := by decide +kernel
theorem d_St_keep_24 : decode prog_10_method_18_code 24 = .ok (.getfield 32, 3) := by decide +kernel
theorem d_St_keep_27 : decode prog_10_method_18_code 27 = .ok (.iload_n 2, 1) := by decide +kernel
theorem d_St_keep_28 : decode prog_10_method_18_code 28 = .ok (.iconst 1, 1) := by decide +kernel
theorem d_St_keep_29 : decode prog_10_method_18_code 29 = .ok (.iadd, 1) := by decide +kernel
theorem d_St_keep_30 : decode prog_10_method_18_code 30 = .ok (.aload_n 0, 1) := by decide +kernel
theorem d_St_keep_31 : decode prog_10_method_18_code 31 = .ok (.getfield 56, 3) := by decide +kernel
theorem d_St_keep_34 : decode prog_10_method_18_code 34 = .ok (.iload_n 2, 1) := by decide +kernel
theorem d_St_keep_35 : decode prog_10_method_18_code 35 = .ok (.isub, 1) := by decide +kernel
theorem d_St_keep_36 : decode prog_10_method_18_code 36 = .ok (.invokestatic 60, 3) := by decide +kernel
theorem d_St_keep_39 : decode prog_10_method_18_code 39 = .ok (.aload_n 0, 1) := by decide +kernel
theorem d_St_keep_40 : decode prog_10_method_18_code 40 = .ok (.getfield 32, 3) := by decide +kernel
theorem d_St_keep_43 : decode prog_10_method_18_code 43 = .ok (.iload_n 2, 1) := by decide +kernel
theorem d_St_keep_44 : decode prog_10_method_18_code 44 = .ok (.iload_n 1, 1) := by decide +kernel
theorem d_St_keep_45 : decode prog_10_method_18_code 45 = .ok (.iastore, 1) := by decide +kernel
theorem d_St_keep_46 : decode prog_10_method_18_code 46 = .ok (.iload_n 1, 1) := by decide +kernel
theorem d_St_keep_47 : decode prog_10_method_18_code 47 = .ok (.bipush 8, 2) := by decide +kernel
theorem d_St_keep_49 : decode prog_10_method_18_code 49 = .ok (.imul, 1) := by decide +kernel
theorem d_St_keep_50 : decode prog_10_method_18_code 50 = .ok (.istore_n 3, 1) := by decide +kernel
theorem d_St_keep_51 : decode prog_10_method_18_code 51 = .ok (.aload_n 0, 1) := by decide +kernel
theorem d_St_keep_52 : decode prog_10_method_18_code 52 = .ok (.getfield 20, 3) := by decide +kernel
theorem d_St_keep_55 : decode prog_10_method_18_code 55 = .ok (.iload_n 1, 1) := by decide +kernel
theorem d_St_keep_56 : decode prog_10_method_18_code 56 = .ok (.iaload, 1) := by decide +kernel
theorem d_St_keep_57 : decode prog_10_method_18_code 57 = .ok (.istore 4, 2) := by decide +kernel
theorem d_St_keep_59 : decode prog_10_method_18_code 59 = .ok (.iload 4, 2) := by decide +kernel
theorem d_St_keep_61 : decode prog_10_method_18_code 61 = .ok (.aload_n 0, 1) := by decide +kernel
theorem d_St_keep_62 : decode prog_10_method_18_code 62 = .ok (.getfield 20, 3) := by decide +kernel
theorem d_St_keep_65 : decode prog_10_method_18_code 65 = .ok (.iload_n 1, 1) := by decide +kernel
theorem d_St_keep_66 : decode prog_10_method_18_code 66 = .ok (.iconst 1, 1) := by decide +kernel
theorem d_St_keep_67 : decode prog_10_method_18_code 67 = .ok (.iadd, 1) := by decide +kernel
theorem d_St_keep_68 : decode prog_10_method_18_code 68 = .ok (.iaload, 1) := by decide +kernel
theorem d_St_keep_69 : decode prog_10_method_18_code 69 = .ok (.if_icmp .ge 81, 3) := by decide +kernel
theorem d_St_keep_72 : decode prog_10_method_18_code 72 = .ok (.aload_n 0, 1) := by decide +kernel
theorem d_St_keep_73 : decode prog_10_method_18_code 73 = .ok (.getfield 26, 3) := by decide +kernel
theorem d_St_keep_76 : decode prog_10_method_18_code 76 = .ok (.iload 4, 2) := by decide +kernel
theorem d_St_keep_78 : decode prog_10_method_18_code 78 = .ok (.iaload, 1) := by decide +kernel
theorem d_St_keep_79 : decode prog_10_method_18_code 79 = .ok (.istore 5, 2) := by decide +kernel
theorem d_St_keep_81 : decode prog_10_method_18_code 81 = .ok (.iconst 0, 1) := by decide +kernel
theorem d_St_keep_82 : decode prog_10_method_18_code 82 = .ok (.istore 6, 2) := by decide +kernel
theorem d_St_keep_84 : decode prog_10_method_18_code 84 = .ok (.iload 6, 2) := by decide +kernel
theorem d_St_keep_86 : decode prog_10_method_18_code 86 = .ok (.bipush 8, 2) := by decide +kernel
theorem d_St_keep_88 : decode prog_10_method_18_code 88 = .ok (.if_icmp .ge 34, 3) := by decide +kernel
theorem d_St_keep_91 : decode prog_10_method_18_code 91 = .ok (.aload_n 0, 1) := by decide +kernel
theorem d_St_keep_92 : decode prog_10_method_18_code 92 = .ok (.getfield 35, 3) := by decide +kernel
theorem d_St_keep_95 : decode prog_10_method_18_code 95 = .ok (.iload_n 3, 1) := by decide +kernel
theorem d_St_keep_96 : decode prog_10_method_18_code 96 = .ok (.iload 6, 2) := by decide +kernel
theorem d_St_keep_98 : decode prog_10_method_18_code 98 = .ok (.iadd, 1) := by decide +kernel
theorem d_St_keep_99 : decode prog_10_method_18_code 99 = .ok (.dup2, 1) := by decide +kernel
theorem d_St_keep_100 : decode prog_10_method_18_code 100 = .ok (.laload, 1) := by decide +kernel
theorem d_St_keep_101 : decode prog_10_method_18_code 101 = .ok (.aload_n 0, 1) := by decide +kernel
theorem d_St_keep_102 : decode prog_10_method_18_code 102 = .ok (.getfield 35, 3) := by decide +kernel
theorem d_St_keep_105 : decode prog_10_method_18_code 105 = .ok (.iload 5, 2) := by decide +kernel
theorem d_St_keep_107 : decode prog_10_method_18_code 107 = .ok (.bipush 8, 2) := by decide +kernel
theorem d_St_keep_109 : decode prog_10_method_18_code 109 = .ok (.imul, 1) := by decide +kernel
theorem d_St_keep_110 : decode prog_10_method_18_code 110 = .ok (.iload 6, 2) := by decide +kernel
theorem d_St_keep_112 : decode prog_10_method_18_code 112 = .ok (.iadd, 1) := by decide +kernel
theorem d_St_keep_113 : decode prog_10_method_18_code 113 = .ok (.laload, 1) := by decide +kernel
theorem d_St_keep_114 : decode prog_10_method_18_code 114 = .ok (.lor, 1) := by decide +kernel
theorem d_St_keep_115 : decode prog_10_method_18_code 115 = .ok (.lastore, 1) := by decide +kernel
theorem d_St_keep_116 : decode prog_10_method_18_code 116 = .ok (.iinc 6 1, 3) := by decide +kernel
theorem d_St_keep_119 : decode prog_10_method_18_code 119 = .ok (.goto (-35), 3) := by decide +kernel
theorem d_St_keep_122 : decode prog_10_method_18_code 122 = .ok (.aload_n 0, 1) := by decide +kernel
theorem d_St_keep_123 : decode prog_10_method_18_code 123 = .ok (.getfield 35, 3) := by decide +kernel
theorem d_St_keep_126 : decode prog_10_method_18_code 126 = .ok (.iload_n 3, 1) := by decide +kernel
theorem d_St_keep_127 : decode prog_10_method_18_code 127 = .ok (.iload 5, 2) := by decide +kernel
theorem d_St_keep_129 : decode prog_10_method_18_code 129 = .ok (.bipush 6, 2) := by decide +kernel
theorem d_St_keep_131 : decode prog_10_method_18_code 131 = .ok (.ishr, 1) := by decide +kernel
theorem d_St_keep_132 : decode prog_10_method_18_code 132 = .ok (.iadd, 1) := by decide +kernel
theorem d_St_keep_133 : decode prog_10_method_18_code 133 = .ok (.dup2, 1) := by decide +kernel
theorem d_St_keep_134 : decode prog_10_method_18_code 134 = .ok (.laload, 1) := by decide +kernel
theorem d_St_keep_135 : decode prog_10_method_18_code 135 = .ok (.lconst 1, 1) := by decide +kernel
theorem d_St_keep_136 : decode prog_10_method_18_code 136 = .ok (.iload 5, 2) := by decide +kernel
theorem d_St_keep_138 : decode prog_10_method_18_code 138 = .ok (.bipush 63, 2) := by decide +kernel
theorem d_St_keep_140 : decode prog_10_method_18_code 140 = .ok (.iand, 1) := by decide +kernel
theorem d_St_keep_141 : decode prog_10_method_18_code 141 = .ok (.lshl, 1) := by decide +kernel
theorem d_St_keep_142 : decode prog_10_method_18_code 142 = .ok (.lor, 1) := by decide +kernel
theorem d_St_keep_143 : decode prog_10_method_18_code 143 = .ok (.lastore, 1) := by decide +kernel
theorem d_St_keep_144 : decode prog_10_method_18_code 144 = .ok (.iinc 4 1, 3) := by decide +kernel
theorem d_St_keep_147 : decode prog_10_method_18_code 147 = .ok (.goto (-88), 3) := by decide +kernel
theorem d_St_keep_150 : decode prog_10_method_18_code 150 = .ok (.iconst 0, 1) := by decide +kernel
theorem d_St_keep_151 : decode prog_10_method_18_code 151 = .ok (.istore 4, 2) := by decide +kernel
theorem d_St_keep_153 : decode prog_10_method_18_code 153 = .ok (.iload 4, 2) := by decide +kernel
theorem d_St_keep_155 : decode prog_10_method_18_code 155 = .ok (.iload_n 1, 1) := by decide +kernel
theorem d_St_keep_156 : decode prog_10_method_18_code 156 = .ok (.if_icmp .ge 43, 3) := by decide +kernel
theorem d_St_keep_159 : decode prog_10_method_18_code 159 = .ok (.aload_n 0, 1) := by decide +kernel
theorem d_St_keep_160 : decode prog_10_method_18_code 160 = .ok (.iload_n 1, 1) := by decide +kernel
theorem d_St_keep_161 : decode prog_10_method_18_code 161 = .ok (.iload 4, 2) := by decide +kernel
theorem d_St_keep_163 : decode prog_10_method_18_code 163 = .ok (.invokevirtual 119, 3) := by decide +kernel
theorem d_St_keep_166 : decode prog_10_method_18_code 166 = .ok (.ifCond .eq 27, 3) := by decide +kernel
theorem d_St_keep_169 : decode prog_10_method_18_code 169 = .ok (.aload_n 0, 1) := by decide +kernel
theorem d_St_keep_170 : decode prog_10_method_18_code 170 = .ok (.getfield 39, 3) := by decide +kernel
theorem d_St_keep_173 : decode prog_10_method_18_code 173 = .ok (.iload 4, 2) := by decide +kernel
theorem d_St_keep_175 : decode prog_10_method_18_code 175 = .ok (.bipush 8, 2) := by decide +kernel
theorem d_St_keep_177 : decode prog_10_method_18_code 177 = .ok (.imul, 1) := by decide +kernel
theorem d_St_keep_178 : decode prog_10_method_18_code 178 = .ok (.iload_n 1, 1) := by decide +kernel
theorem d_St_keep_179 : decode prog_10_method_18_code 179 = .ok (.bipush 6, 2) := by decide +kernel
theorem d_St_keep_181 : decode prog_10_method_18_code 181 = .ok (.ishr, 1) := by decide +kernel
theorem d_St_keep_182 : decode prog_10_method_18_code 182 = .ok (.iadd, 1) := by decide +kernel
theorem d_St_keep_183 : decode prog_10_method_18_code 183 = .ok (.dup2, 1) := by decide +kernel
theorem d_St_keep_184 : decode prog_10_method_18_code 184 = .ok (.laload, 1) := by decide +kernel
theorem d_St_keep_185 : decode prog_10_method_18_code 185 = .ok (.lconst 1, 1) := by decide +kernel
theorem d_St_keep_186 : decode prog_10_method_18_code 186 = .ok (.iload_n 1, 1) := by decide +kernel
theorem d_St_keep_187 : decode prog_10_method_18_code 187 = .ok (.bipush 63, 2) := by decide +kernel
theorem d_St_keep_189 : decode prog_10_method_18_code 189 = .ok (.iand, 1) := by decide +kernel
theorem d_St_keep_190 : decode prog_10_method_18_code 190 = .ok (.lshl, 1) := by decide +kernel
theorem d_St_keep_191 : decode prog_10_method_18_code 191 = .ok (.lor, 1) := by decide +kernel
theorem d_St_keep_192 : decode prog_10_method_18_code 192 = .ok (.lastore, 1) := by decide +kernel
theorem d_St_keep_193 : decode prog_10_method_18_code 193 = .ok (.iinc 4 1, 3) := by decide +kernel
theorem d_St_keep_196 : decode prog_10_method_18_code 196 = .ok (.goto (-43), 3) := by decide +kernel
theorem d_St_keep_199 : decode prog_10_method_18_code 199 = .ok (.aload_n 0, 1) := by decide +kernel
theorem d_St_keep_200 : decode prog_10_method_18_code 200 = .ok (.dup, 1) := by decide +kernel
theorem d_St_keep_201 : decode prog_10_method_18_code 201 = .ok (.getfield 56, 3) := by decide +kernel
theorem d_St_keep_204 : decode prog_10_method_18_code 204 = .ok (.iconst 1, 1) := by decide +kernel
theorem d_St_keep_205 : decode prog_10_method_18_code 205 = .ok (.iadd, 1) := by decide +kernel
theorem d_St_keep_206 : decode prog_10_method_18_code 206 = .ok (.putfield 56, 3) := by decide +kernel
theorem d_St_keep_209 : decode prog_10_method_18_code 209 = .ok (.return_, 1) := by decide +kernel
/-- the bit of n in its word -/
def bit1 (n : Nat) : Int64 := (1 : Int64) <<< ((nI (n % 64)).toInt64 &&& 63)
/-- the row with n put in -/
def btr_in (w : Nat → Int64) (o n : Nat) : Nat → Int64 := vp_updL w (o + n / 64) (w (o + n / 64) ||| bit1 n)
theorem btr_in_at (w : Nat → Int64) (o n k : Nat) : btr (btr_in w o n) o k = (btr w o k || decide (k = n)) := by
  unfold btr btr_in vp_updL bit1
  by_cases h : k / 64 = n / 64
  · rw [if_pos (by rw [h]), ← h, bt_or _ _ (Nat.mod_lt _ (by decide))]
    congr 1
    by_cases e : k = n
    · subst e; simp
    · have : ¬ k % 64 = n % 64 := by omega
      simp [e, this]
  · rw [if_neg (by omega)]
    have : ¬ k = n := fun e => h (by rw [e])
    simp [this]
theorem btr_in_out (w : Nat → Int64) {o n k : Nat} (h : ¬ k = o + n / 64) : btr_in w o n k = w k := if_neg h
theorem btr_orw {w x y : Nat → Int64} {o o2 : Nat} (h : ∀ k, k < 8 → w (o + k) = x (o + k) ||| y (o2 + k)) (n : Nat) (hn : n < 512) : btr w o n = (btr x o n || btr y o2 n) := by
  unfold btr
  rw [h (n / 64) (by omega), Int64.toBitVec_or, BitVec.getLsbD_or]
/-- what patch P leans on: its first i dependencies and what these lean on -/
def lnO (lo lou : Nat → Int64) (DP : Nat → Nat) (P i : Nat) : Prop := (∀ k, k < P * 8 ∨ P * 8 + 8 ≤ k → lou k = lo k) ∧ ∀ n, n < 512 → (btr lou (P * 8) n = true ↔ btr lo (P * 8) n = true ∨ ∃ q, q < i ∧ (n = DP q ∨ btr lo (DP q * 8) n = true))
theorem lnO.step {lo lou lov : Nat → Int64} {DP : Nat → Nat} {P i : Nat} (h : lnO lo lou DP P i) (hd : DP i < P) (hP : P < 500) (h1 : ∀ k, k < P * 8 ∨ P * 8 + 8 ≤ k → lov k = lo k) (h2 : ∀ k, k < 8 → lov (P * 8 + k) = lou (P * 8 + k) ||| lo (DP i * 8 + k)) : lnO lo (btr_in lov (P * 8) (DP i)) DP P (i + 1) := by
  constructor
  · intro k hk
    rw [btr_in_out _ (by omega)]
    exact h1 k hk
  · intro n hn
    rw [btr_in_at, Bool.or_eq_true, btr_orw h2 n hn, Bool.or_eq_true, h.2 n hn, decide_eq_true_iff]
    constructor
    · rintro (((a | ⟨q, a, b⟩) | a) | a)
      · exact Or.inl a
      · exact Or.inr ⟨q, by omega, b⟩
      · exact Or.inr ⟨i, by omega, Or.inr a⟩
      · exact Or.inr ⟨i, by omega, Or.inl a⟩
    · rintro (a | ⟨q, a, b⟩)
      · exact Or.inl (Or.inl (Or.inl a))
      · by_cases e : q = i
        · subst e
          rcases b with b | b
          · exact Or.inr b
          · exact Or.inl (Or.inr b)
        · exact Or.inl (Or.inl (Or.inr ⟨q, by omega, b⟩))
/-- the words of what is leant by: P leans on those of the first n that its row says -/
def lbX (lb lo : Nat → Int64) (P n : Nat) : Nat → Int64 := fun k => if k % 8 = P / 64 ∧ k / 8 < n ∧ btr lo (P * 8) (k / 8) = true then lb k ||| bit1 P else lb k
theorem lbX_0 (lb lo : Nat → Int64) (P : Nat) : lbX lb lo P 0 = lb := by
  funext k
  unfold lbX
  rw [if_neg (by omega)]
theorem lbX_no {lb lo : Nat → Int64} {P n : Nat} (h : btr lo (P * 8) n = false) : lbX lb lo P (n + 1) = lbX lb lo P n := by
  funext k
  unfold lbX
  by_cases e : k / 8 = n
  · rw [if_neg (by rw [e, h]; simp), if_neg (by omega)]
  · by_cases z : k % 8 = P / 64 ∧ k / 8 < n ∧ btr lo (P * 8) (k / 8) = true
    · rw [if_pos z, if_pos ⟨z.1, by omega, z.2.2⟩]
    · rw [if_neg z, if_neg (fun y => z ⟨y.1, by omega, y.2.2⟩)]
theorem lbX_yes {lb lo : Nat → Int64} {P n : Nat} (hP : P < 500) (h : btr lo (P * 8) n = true) : lbX lb lo P (n + 1) = btr_in (lbX lb lo P n) (n * 8) P := by
  funext k
  unfold btr_in vp_updL
  by_cases e : k = n * 8 + P / 64
  · rw [if_pos e]
    have e1 : k % 8 = P / 64 := by omega
    have e2 : k / 8 = n := by omega
    unfold lbX
    rw [if_pos ⟨e1, by omega, by rw [e2]; exact h⟩, if_neg (by omega), e]
  · rw [if_neg e]
    unfold lbX
    by_cases e1 : k % 8 = P / 64
    · have e2 : ¬ k / 8 = n := by omega
      by_cases z : k % 8 = P / 64 ∧ k / 8 < n ∧ btr lo (P * 8) (k / 8) = true
      · rw [if_pos z, if_pos ⟨z.1, by omega, z.2.2⟩]
      · rw [if_neg z, if_neg (fun y => z ⟨y.1, by omega, y.2.2⟩)]
    · rw [if_neg (fun z => e1 z.1), if_neg (fun z => e1 z.1)]
theorem lbX_bit {lb lo : Nat → Int64} {P n q k : Nat} (hP : P < 500) (hk : k < 512) : btr (lbX lb lo P n) (q * 8) k = (btr lb (q * 8) k || (decide (k = P) && decide (q < n) && btr lo (P * 8) q)) := by
  have e1 : (q * 8 + k / 64) % 8 = k / 64 := by omega
  have e2 : (q * 8 + k / 64) / 8 = q := by omega
  unfold btr lbX
  rw [e1, e2]
  by_cases h : k / 64 = P / 64 ∧ q < n ∧ btr lo (P * 8) q = true
  · rw [if_pos h]
    unfold bit1
    rw [bt_or _ _ (Nat.mod_lt _ (by decide))]
    congr 1
    have h3 : (lo (P * 8 + q / 64)).toBitVec.getLsbD (q % 64) = true := h.2.2
    rw [h3]
    by_cases e : k = P
    · subst e; simp [h.2.1]
    · have : ¬ k % 64 = P % 64 := by omega
      simp [e, this]
  · rw [if_neg h]
    by_cases e : k = P
    · subst e
      have : ¬ (q < n ∧ (lo (k * 8 + q / 64)).toBitVec.getLsbD (q % 64) = true) := fun z => h ⟨rfl, z⟩
      by_cases z : q < n
      · have : (lo (k * 8 + q / 64)).toBitVec.getLsbD (q % 64) = false := by
          cases hz : (lo (k * 8 + q / 64)).toBitVec.getLsbD (q % 64)
          · rfl
          · exact absurd ⟨z, hz⟩ this
        simp [this]
      · simp [z]
    · simp [e]
theorem vpL_ne (g : Nat → Int64) {k j : Nat} {v : Int64} (h : ¬ j = k) : vp_updL g k v j = g j := if_neg h
theorem vpL_eq (g : Nat → Int64) (k : Nat) (v : Int64) : vp_updL g k v k = v := if_pos rfl
theorem lnO.zero (lo : Nat → Int64) (DP : Nat → Nat) (P : Nat) : lnO lo lo DP P 0 := ⟨fun _ _ => rfl, fun n _ => ⟨Or.inl, fun z => z.elim id (fun ⟨q, a, _⟩ => absurd a (Nat.not_lt_zero _))⟩⟩
theorem lnC {lo lou lov : Nat → Int64} {P d wd : Nat} (hA : ∀ k, k < P * 8 ∨ P * 8 + 8 ≤ k → lov k = lo k) (hd : d < P) (hwd : wd < 8) (h : ∀ k, k < 8 → lov (P * 8 + k) = if k < wd then lou (P * 8 + k) ||| lo (d * 8 + k) else lou (P * 8 + k)) : ∀ k, k < 8 → vp_updL lov (P * 8 + wd) (lov (P * 8 + wd) ||| lov (d * 8 + wd)) (P * 8 + k) = if k < wd + 1 then lou (P * 8 + k) ||| lo (d * 8 + k) else lou (P * 8 + k) := by
  intro k hk
  by_cases e : k = wd
  · subst e
    rw [vpL_eq, if_pos (by omega), h k hk, if_neg (by omega), hA (d * 8 + k) (by omega)]
  · rw [vpL_ne _ (by omega), h k hk]
    by_cases z : k < wd
    · rw [if_pos z, if_pos (by omega)]
    · rw [if_neg z, if_neg (by omega)]
set_option maxHeartbeats 4000000 in
set_option maxRecDepth 100000 in
/-- the candidate becomes a patch -/
theorem m_St_keep (l : Launch) (dC : Nat → ClassId) (dI : Nat → Nat → Nat) (cI cB cL cZ cR : ClassId) (h hs bh fdA dpA loA lbA : Nat) (sk_bytes sk_from sk_firstChange sk_changes sk_lines : Value) (hf bf fdf dpf : Nat → Int32) (lo lb : Nat → Int64) (Bh DP : Nat → Nat) (P D0 nd : Nat) (sz : Nat) (hP4 : P < 500) (gB : ∀ i, i < P → bf i = nI (Bh i) ∧ Bh i ≤ 500) (gM : ∀ i k, i ≤ k → k < P → hsl hf hf Bh (P * 32) k → hsl hf hf Bh (P * 32) i) (gE0 : fdf P = nI D0) (gE1 : fdf (P + 1) = nI (D0 + nd)) (hDr : D0 + nd ≤ 8400) (gD : ∀ i, i < nd → dpf (D0 + i) = nI (DP i) ∧ DP i < P) : Met l y_St_keep ws_St_keep ({ frames := 2, cells := 0, slots := 0, locals := 120 }) (xw_Pc dC dI [(cI, .int), (cB, .byte), (cL, .long), (cZ, .boolean), (cR, .object "PatchStore$Repository")] [.ref h] [(h, .inr (9, [sk_bytes, sk_from, .ref fdA, sk_firstChange, .ref dpA, .ref hs, .ref bh, .ref loA, .ref lbA, sk_changes, sk_lines, .int (nI P)])), (hs, .inl (cB, 16032, .inl hf)), (bh, .inl (cI, 500, .inl bf)), (fdA, .inl (cI, 502, .inl fdf)), (dpA, .inl (cI, 8400, .inl dpf)), (loA, .inl (cL, 4000, .inr (.inl lo))), (lbA, .inl (cL, 4000, .inr (.inl lb)))] sz) (va_Qv (fun u : (Nat → Int64) × Nat × (Nat → Int64) => lnO lo u.1 DP P nd ∧ rk_ok hf hf Bh P (P * 32) u.2.1 ∧ u.2.2 = lbX lb u.1 P P) (fun u t => xw_B dC dI [(cI, .int), (cB, .byte), (cL, .long), (cZ, .boolean), (cR, .object "PatchStore$Repository")] (va_A [(h, .inr (9, [sk_bytes, sk_from, .ref fdA, sk_firstChange, .ref dpA, .ref hs, .ref bh, .ref loA, .ref lbA, sk_changes, sk_lines, .int (nI P)])), (hs, .inl (cB, 16032, .inl hf)), (bh, .inl (cI, 500, .inl bf)), (fdA, .inl (cI, 502, .inl fdf)), (dpA, .inl (cI, 8400, .inl dpf)), (loA, .inl (cL, 4000, .inr (.inl lo))), (lbA, .inl (cL, 4000, .inr (.inl lb)))] sz) [(h, .inr (9, [sk_bytes, sk_from, .ref fdA, sk_firstChange, .ref dpA, .ref hs, .ref bh, .ref loA, .ref lbA, sk_changes, sk_lines, .int (nI (P + 1))])), (hs, .inl (cB, 16032, .inl hf)), (bh, .inl (cI, 500, .inl (upd (va_cpy bf bf u.2.1 (u.2.1 + 1) (P - u.2.1)) u.2.1 (nI P)))), (fdA, .inl (cI, 502, .inl fdf)), (dpA, .inl (cI, 8400, .inl dpf)), (loA, .inl (cL, 4000, .inr (.inl u.1))), (lbA, .inl (cL, 4000, .inr (.inl u.2.2)))] t) (va_A [(h, .inr (9, [sk_bytes, sk_from, .ref fdA, sk_firstChange, .ref dpA, .ref hs, .ref bh, .ref loA, .ref lbA, sk_changes, sk_lines, .int (nI P)])), (hs, .inl (cB, 16032, .inl hf)), (bh, .inl (cI, 500, .inl bf)), (fdA, .inl (cI, 502, .inl fdf)), (dpA, .inl (cI, 8400, .inl dpf)), (loA, .inl (cL, 4000, .inr (.inl lo))), (lbA, .inl (cL, 4000, .inr (.inl lb)))] sz)) 0 0 (va_A [(h, .inr (9, [sk_bytes, sk_from, .ref fdA, sk_firstChange, .ref dpA, .ref hs, .ref bh, .ref loA, .ref lbA, sk_changes, sk_lines, .int (nI P)])), (hs, .inl (cB, 16032, .inl hf)), (bh, .inl (cI, 500, .inl bf)), (fdA, .inl (cI, 502, .inl fdf)), (dpA, .inl (cI, 8400, .inl dpf)), (loA, .inl (cL, 4000, .inr (.inl lo))), (lbA, .inl (cL, 4000, .inr (.inl lb)))] sz) := by
  refine Met.ofW (cc := prog_10_method_18_code) (maxL := 7) (ret := none) (by decide) rfl ?_
  intro p e s m args below meth c s₁ B hml hv
  obtain ⟨rfl, hsz, hP, hK, hD0⟩ := hv
  have hx := B.exec
  have hb := B.bytes
  have hr := B.returns
  have hts0 := atoms_spec (ws := ws_St_keep) B.pre
  have hts : ∀ w ∈ xg_1, w.before _ s = true := fun w h => hts0 w (List.mem_cons_of_mem _ h)
  have hown : s.vm.findClass "PatchStore$Stock" = some m.cls := findClass_of_methodNamed B.named
  have hlocks := B.notSynchronized
  subst hsz
  have hD := hD0.self (sz := s.heap.size)
  generalize hAe : va_A [(h, .inr (9, [sk_bytes, sk_from, .ref fdA, sk_firstChange, .ref dpA, .ref hs, .ref bh, .ref loA, .ref lbA, sk_changes, sk_lines, .int (nI P)])), (hs, .inl (cB, 16032, .inl hf)), (bh, .inl (cI, 500, .inl bf)), (fdA, .inl (cI, 502, .inl fdf)), (dpA, .inl (cI, 8400, .inl dpf)), (loA, .inl (cL, 4000, .inr (.inl lo))), (lbA, .inl (cL, 4000, .inr (.inl lb)))] s.heap.size = A at hD ⊢
  have hA : ∀ q : Nat, s.heap.size ≤ q → A q := fun q h => by rw [← hAe]; exact Or.inr h
  have hS : va_S A s.heap s.heap [] := va_S.rf
  have hl := lv_entry ([.ref h]) (n := 7) (Nat.le_of_ble_eq_true rfl)
  rw [lg_entry_eq]
  generalize (lg_sl ([.ref h]) ++ List.replicate (7 - (lg_sl ([.ref h])).length) Slot.unset).toArray = ls at hl ⊢
  have hl : lv_has ls 7 [(0, .ref h)] := hl
  generalize hQe : MQ _ _ _ _ _ _ _ = Q
  refine lv_aload_n hx hb d_St_keep_0 rfl (lv_at hl 0 rfl) ?_
  refine va_get (D := (dC, dI)) (ci := 9) (v := .int (nI P)) (C := R_St) (T := F_St) (N := 12) hx hb hts i_St hown hK hP 0 rfl rfl 11 (by decide) (hts _ gw_235) (fun _ h9 => h9) rfl d_St_keep_1 ?_
  refine lv_istore_n (lv' := [(1, .int (nI P)), (0, .ref h)]) hx hb d_St_keep_4 rfl hl (by decide) rfl (fun ls hl => ?_)
  refine lv_aload_n hx hb d_St_keep_5 rfl (lv_at hl 1 rfl) ?_
  refine lv_aload_n hx hb d_St_keep_6 rfl (lv_at hl 1 rfl) ?_
  refine va_get (D := (dC, dI)) (ci := 9) (v := .ref hs) (C := R_St) (T := F_St) (N := 12) hx hb hts i_St hown hK hP 0 rfl rfl 5 (by decide) (hts _ gw_204) (fun _ h9 => h9) rfl d_St_keep_7 ?_
  refine lv_iload_n hx hb d_St_keep_10 rfl (lv_at hl 0 rfl) ?_
  refine lv_bipush (v := 32) hx hb d_St_keep_11 (by decide) ?_
  refine lv_imul hx hb d_St_keep_13 ?_
  refine lv_topi (fun x_1 ex_1 => ?_)
  obtain rfl : x_1 = nI (P * 32) := by rw [ex_1]; first | done | (exact nI_mul _ _)
  have hPc := hP.sub (ws' := [(h, .inr (9, [sk_bytes, sk_from, .ref fdA, sk_firstChange, .ref dpA, .ref hs, .ref bh, .ref loA, .ref lbA, sk_changes, sk_lines, .int (nI P)])), (hs, .inl (cB, 16032, .inl hf)), (bh, .inl (cI, 500, .inl bf))]) [0, 1, 2] rfl
  have hDc := hD.sub (ws' := [(h, .inr (9, [sk_bytes, sk_from, .ref fdA, sk_firstChange, .ref dpA, .ref hs, .ref bh, .ref loA, .ref lbA, sk_changes, sk_lines, .int (nI P)])), (hs, .inl (cB, 16032, .inl hf)), (bh, .inl (cI, 500, .inl bf))]) [0, 1, 2] (by decide) rfl
  have hFc := va_free (wc := [(h, .inr (9, [sk_bytes, sk_from, .ref fdA, sk_firstChange, .ref dpA, .ref hs, .ref bh, .ref loA, .ref lbA, sk_changes, sk_lines, .int (nI P)])), (hs, .inl (cB, 16032, .inl hf)), (bh, .inl (cI, 500, .inl bf))]) hD hS hA [0, 1, 2] rfl
  refine va_calli (va_runV (As := [.ref hs, .int (nI (P * 32))]) (rest := []) ⟨hx, hb, hml, hown, hts⟩ (m_St_ranks l dC dI cI cB cL cZ cR h hs bh (sk_bytes) (sk_from) (.ref fdA) (sk_firstChange) (.ref dpA) (.ref loA) (.ref lbA) (sk_changes) (sk_lines) P (P * 32) hf bf Bh s.heap.size (by omega) gB gM (by omega)) (cwV 2 hts (xg_V gw_820 gw_821 gw_822 gw_3 gw_823) rfl rfl rfl (by decide +kernel) ⟨Nat.le_of_ble_eq_true rfl, Nat.le_of_ble_eq_true rfl⟩) ⟨xw_blind, va_recv hK hPc (ci := 9) (q0 := 0) rfl rfl, fun U hU hW => ⟨rfl, by rw [hU], by rw [hU]; exact hPc, va_K.moved hW.alike hK, hDc.weaken (fun _ _ _ _ => trivial)⟩⟩ rfl rfl hl.1 rfl (lv_room (Nat.le_of_ble_eq_true rfl)) d_St_keep_14 ⟨Nat.le_of_ble_eq_true rfl, Nat.le_of_ble_eq_true rfl⟩) hS (fun q _ h => hFc q h) hFc (fun r9 rk t H1 locs ht hvm hw hB hz1 hk1 hS => ?_)
  obtain ⟨hP1, hK1, hD1⟩ := hB
  rw [ht] at hP1
  obtain ⟨hP, hD⟩ := va_join (wr := [(fdA, .inl (cI, 502, .inl fdf)), (dpA, .inl (cI, 8400, .inl dpf)), (loA, .inl (cL, 4000, .inr (.inl lo))), (lbA, .inl (cL, 4000, .inr (.inl lb)))]) (w1 := [(h, .inr (9, [sk_bytes, sk_from, .ref fdA, sk_firstChange, .ref dpA, .ref hs, .ref bh, .ref loA, .ref lbA, sk_changes, sk_lines, .int (nI P)])), (hs, .inl (cB, 16032, .inl hf)), (bh, .inl (cI, 500, .inl bf))]) hP hD [0, 1, 2] [3, 4, 5, 6] rfl rfl (by decide) (by decide) hk1 hFc hP1 hD1
  generalize H1 = H at hP hS ⊢
  have hP : va_P (dC, dI) classes [(fdA, .inl (cI, 502, .inl fdf)), (dpA, .inl (cI, 8400, .inl dpf)), (loA, .inl (cL, 4000, .inr (.inl lo))), (lbA, .inl (cL, 4000, .inr (.inl lb))), (h, .inr (9, [sk_bytes, sk_from, .ref fdA, sk_firstChange, .ref dpA, .ref hs, .ref bh, .ref loA, .ref lbA, sk_changes, sk_lines, .int (nI P)])), (hs, .inl (cB, 16032, .inl hf)), (bh, .inl (cI, 500, .inl bf))] H := hP
  have hD : va_D A [(fdA, .inl (cI, 502, .inl fdf)), (dpA, .inl (cI, 8400, .inl dpf)), (loA, .inl (cL, 4000, .inr (.inl lo))), (lbA, .inl (cL, 4000, .inr (.inl lb))), (h, .inr (9, [sk_bytes, sk_from, .ref fdA, sk_firstChange, .ref dpA, .ref hs, .ref bh, .ref loA, .ref lbA, sk_changes, sk_lines, .int (nI P)])), (hs, .inl (cB, 16032, .inl hf)), (bh, .inl (cI, 500, .inl bf))] := hD
  rcases hw with ⟨rfl, hrk⟩
  · have hP : va_P (dC, dI) classes [(fdA, .inl (cI, 502, .inl fdf)), (dpA, .inl (cI, 8400, .inl dpf)), (loA, .inl (cL, 4000, .inr (.inl lo))), (lbA, .inl (cL, 4000, .inr (.inl lb))), (h, .inr (9, [sk_bytes, sk_from, .ref fdA, sk_firstChange, .ref dpA, .ref hs, .ref bh, .ref loA, .ref lbA, sk_changes, sk_lines, .int (nI P)])), (hs, .inl (cB, 16032, .inl hf)), (bh, .inl (cI, 500, .inl bf))] H := hP
    have hD : va_D A [(fdA, .inl (cI, 502, .inl fdf)), (dpA, .inl (cI, 8400, .inl dpf)), (loA, .inl (cL, 4000, .inr (.inl lo))), (lbA, .inl (cL, 4000, .inr (.inl lb))), (h, .inr (9, [sk_bytes, sk_from, .ref fdA, sk_firstChange, .ref dpA, .ref hs, .ref bh, .ref loA, .ref lbA, sk_changes, sk_lines, .int (nI P)])), (hs, .inl (cB, 16032, .inl hf)), (bh, .inl (cI, 500, .inl bf))] := hD
    have hrk1 := hrk.1
    refine lv_istore_n (lv' := [(2, .int (nI rk)), (1, .int (nI P)), (0, .ref h)]) hx hb d_St_keep_17 rfl hl (by decide) rfl (fun ls hl => ?_)
    refine lv_aload_n hx hb d_St_keep_18 rfl (lv_at hl 2 rfl) ?_
    refine va_get (D := (dC, dI)) (ci := 9) (v := .ref bh) (C := R_St) (T := F_St) (N := 12) hx hb hts i_St hown hK hP 4 rfl rfl 6 (by decide) (hts _ gw_209) (fun _ h9 => h9) rfl d_St_keep_19 ?_
    refine lv_iload_n hx hb d_St_keep_22 rfl (lv_at hl 0 rfl) ?_
    refine lv_aload_n hx hb d_St_keep_23 rfl (lv_at hl 2 rfl) ?_
    refine va_get (D := (dC, dI)) (ci := 9) (v := .ref bh) (C := R_St) (T := F_St) (N := 12) hx hb hts i_St hown hK hP 4 rfl rfl 6 (by decide) (hts _ gw_209) (fun _ h9 => h9) rfl d_St_keep_24 ?_
    refine lv_iload_n hx hb d_St_keep_27 rfl (lv_at hl 0 rfl) ?_
    refine lv_iconst (v := 1) hx hb d_St_keep_28 (by decide) ?_
    refine lv_iadd hx hb d_St_keep_29 ?_
    refine lv_topi (fun x_2 ex_2 => ?_)
    obtain rfl : x_2 = nI (rk + 1) := by rw [ex_2]; first | done | (exact nI_add _ _)
    refine lv_aload_n hx hb d_St_keep_30 rfl (lv_at hl 2 rfl) ?_
    refine va_get (D := (dC, dI)) (ci := 9) (v := .int (nI P)) (C := R_St) (T := F_St) (N := 12) hx hb hts i_St hown hK hP 4 rfl rfl 11 (by decide) (hts _ gw_235) (fun _ h9 => h9) rfl d_St_keep_31 ?_
    refine lv_iload_n hx hb d_St_keep_34 rfl (lv_at hl 0 rfl) ?_
    refine lv_isub hx hb d_St_keep_35 ?_
    refine lv_topi (fun x_3 ex_3 => ?_)
    obtain rfl : x_3 = nI (P - rk) := by rw [ex_3]; first | done | (exact nI_subN hrk1)
    have cp1 : (nI rk).toNatClampNeg = rk := nI_clamp (by omega)
    have cp2 : (nI (rk + 1)).toNatClampNeg = (rk + 1) := nI_clamp (by omega)
    have cp3 : (nI (P - rk)).toNatClampNeg = (P - rk) := nI_clamp (by omega)
    refine va_copyi hx hb (by rw [hml, hl.1]) hown (hts _ gw_970) (hts _ gw_952) (hts _ gw_951) (hts _ gw_23) hK hP hD hS 6 6 0 0 rfl rfl rfl rfl rfl (nI_pos (by omega)) (nI_pos (by omega)) (nI_pos (by omega)) (by rw [cp1, cp3]; omega) (by rw [cp2, cp3]; omega) (by rw [cp1, cp3]; exact fun _ _ => rfl) (Nat.le_of_ble_eq_true rfl) (Nat.le_of_ble_eq_true rfl) d_St_keep_36 (fun H locs hP hD hS => ?_)
    rw [cp1, cp2, cp3] at hP hD
    have hP : va_P (dC, dI) classes [(fdA, .inl (cI, 502, .inl fdf)), (dpA, .inl (cI, 8400, .inl dpf)), (loA, .inl (cL, 4000, .inr (.inl lo))), (lbA, .inl (cL, 4000, .inr (.inl lb))), (h, .inr (9, [sk_bytes, sk_from, .ref fdA, sk_firstChange, .ref dpA, .ref hs, .ref bh, .ref loA, .ref lbA, sk_changes, sk_lines, .int (nI P)])), (hs, .inl (cB, 16032, .inl hf)), (bh, .inl (cI, 500, .inl (va_cpy bf bf rk (rk + 1) (P - rk))))] H := hP
    have hD : va_D A [(fdA, .inl (cI, 502, .inl fdf)), (dpA, .inl (cI, 8400, .inl dpf)), (loA, .inl (cL, 4000, .inr (.inl lo))), (lbA, .inl (cL, 4000, .inr (.inl lb))), (h, .inr (9, [sk_bytes, sk_from, .ref fdA, sk_firstChange, .ref dpA, .ref hs, .ref bh, .ref loA, .ref lbA, sk_changes, sk_lines, .int (nI P)])), (hs, .inl (cB, 16032, .inl hf)), (bh, .inl (cI, 500, .inl (va_cpy bf bf rk (rk + 1) (P - rk))))] := hD
    refine lv_aload_n hx hb d_St_keep_39 rfl (lv_at hl 2 rfl) ?_
    refine va_get (D := (dC, dI)) (ci := 9) (v := .ref bh) (C := R_St) (T := F_St) (N := 12) hx hb hts i_St hown hK hP 4 rfl rfl 6 (by decide) (hts _ gw_209) (fun _ h9 => h9) rfl d_St_keep_40 ?_
    refine lv_iload_n hx hb d_St_keep_43 rfl (lv_at hl 0 rfl) ?_
    refine lv_iload_n hx hb d_St_keep_44 rfl (lv_at hl 1 rfl) ?_
    refine va_iast hx hb hK hP hD hS 6 0 rfl rfl (vp_in_nI (by omega) (by omega)) d_St_keep_45 (fun H locs hP hD hS => ?_)
    rw [show (nI rk).toNatClampNeg = rk from nI_clamp (by omega)] at hP hD
    have hP : va_P (dC, dI) classes [(fdA, .inl (cI, 502, .inl fdf)), (dpA, .inl (cI, 8400, .inl dpf)), (loA, .inl (cL, 4000, .inr (.inl lo))), (lbA, .inl (cL, 4000, .inr (.inl lb))), (h, .inr (9, [sk_bytes, sk_from, .ref fdA, sk_firstChange, .ref dpA, .ref hs, .ref bh, .ref loA, .ref lbA, sk_changes, sk_lines, .int (nI P)])), (hs, .inl (cB, 16032, .inl hf)), (bh, .inl (cI, 500, .inl (upd (va_cpy bf bf rk (rk + 1) (P - rk)) rk (nI P))))] H := hP
    have hD : va_D A [(fdA, .inl (cI, 502, .inl fdf)), (dpA, .inl (cI, 8400, .inl dpf)), (loA, .inl (cL, 4000, .inr (.inl lo))), (lbA, .inl (cL, 4000, .inr (.inl lb))), (h, .inr (9, [sk_bytes, sk_from, .ref fdA, sk_firstChange, .ref dpA, .ref hs, .ref bh, .ref loA, .ref lbA, sk_changes, sk_lines, .int (nI P)])), (hs, .inl (cB, 16032, .inl hf)), (bh, .inl (cI, 500, .inl (upd (va_cpy bf bf rk (rk + 1) (P - rk)) rk (nI P))))] := hD
    refine lv_iload_n hx hb d_St_keep_46 rfl (lv_at hl 1 rfl) ?_
    refine lv_bipush (v := 8) hx hb d_St_keep_47 (by decide) ?_
    refine lv_imul hx hb d_St_keep_49 ?_
    refine lv_topi (fun x_4 ex_4 => ?_)
    obtain rfl : x_4 = nI (P * 8) := by rw [ex_4]; first | done | (exact nI_mul _ _)
    refine lv_istore_n (lv' := [(3, .int (nI (P * 8))), (2, .int (nI rk)), (1, .int (nI P)), (0, .ref h)]) hx hb d_St_keep_50 rfl hl (by decide) rfl (fun ls hl => ?_)
    refine lv_aload_n hx hb d_St_keep_51 rfl (lv_at hl 3 rfl) ?_
    refine va_get (D := (dC, dI)) (ci := 9) (v := .ref fdA) (C := R_St) (T := F_St) (N := 12) hx hb hts i_St hown hK hP 4 rfl rfl 2 (by decide) (hts _ gw_194) (fun _ h9 => h9) rfl d_St_keep_52 ?_
    refine lv_iload_n hx hb d_St_keep_55 rfl (lv_at hl 2 rfl) ?_
    refine va_iald hx hb hK hP 0 0 rfl rfl (vp_in_nI (by omega) (by omega)) d_St_keep_56 ?_
    rw [show (nI P).toNatClampNeg = P from nI_clamp (by omega)]
    refine lv_topi (fun x_5 ex_5 => ?_)
    obtain rfl : x_5 = nI D0 := by rw [ex_5]; first | done | (exact gE0)
    refine lv_istore (lv' := [(4, .int (nI D0)), (3, .int (nI (P * 8))), (2, .int (nI rk)), (1, .int (nI P)), (0, .ref h)]) hx hb d_St_keep_57 hl (by decide) rfl (fun ls hl => ?_)
    have loop_59 : ∀ (n9 : Nat) (i : Nat) (lou : Nat → Int64) (H : Heap) (locs : List Loc) (ls : Array Slot), nd - i < n9 → (i ≤ nd) → (lnO lo lou DP P i) → va_P (dC, dI) classes [(h, .inr (9, [sk_bytes, sk_from, .ref fdA, sk_firstChange, .ref dpA, .ref hs, .ref bh, .ref loA, .ref lbA, sk_changes, sk_lines, .int (nI P)])), (hs, .inl (cB, 16032, .inl hf)), (bh, .inl (cI, 500, .inl (upd (va_cpy bf bf rk (rk + 1) (P - rk)) rk (nI P)))), (fdA, .inl (cI, 502, .inl fdf)), (dpA, .inl (cI, 8400, .inl dpf)), (loA, .inl (cL, 4000, .inr (.inl lou))), (lbA, .inl (cL, 4000, .inr (.inl lb)))] H → va_D A [(h, .inr (9, [sk_bytes, sk_from, .ref fdA, sk_firstChange, .ref dpA, .ref hs, .ref bh, .ref loA, .ref lbA, sk_changes, sk_lines, .int (nI P)])), (hs, .inl (cB, 16032, .inl hf)), (bh, .inl (cI, 500, .inl (upd (va_cpy bf bf rk (rk + 1) (P - rk)) rk (nI P)))), (fdA, .inl (cI, 502, .inl fdf)), (dpA, .inl (cI, 8400, .inl dpf)), (loA, .inl (cL, 4000, .inr (.inl lou))), (lbA, .inl (cL, 4000, .inr (.inl lb)))] → va_S A s.heap H locs → lv_has ls 7 [(0, .ref h), (1, .int (nI P)), (2, .int (nI rk)), (3, .int (nI (P * 8))), (4, .int (nI (D0 + i)))] → W p l e (headSpec ws_St_keep ({ frames := 2, cells := 0, slots := 0, locals := 120 })).room s m ([.ref h] : List Value).toArray below meth c H locs 0 0 Q (F0 m 59 ls []) := by
      intro n9
      induction n9 with
      | zero => intro i lou H locs ls hm; exact absurd hm (Nat.not_lt_zero _)
      | succ n9 ih_59 =>
        intro i lou H locs ls hm hi hLn hP hD hS hl
        refine lv_iload hx hb d_St_keep_59 (lv_at hl 4 rfl) ?_
        refine lv_aload_n hx hb d_St_keep_61 rfl (lv_at hl 0 rfl) ?_
        refine va_get (D := (dC, dI)) (ci := 9) (v := .ref fdA) (C := R_St) (T := F_St) (N := 12) hx hb hts i_St hown hK hP 0 rfl rfl 2 (by decide) (hts _ gw_194) (fun _ h9 => h9) rfl d_St_keep_62 ?_
        refine lv_iload_n hx hb d_St_keep_65 rfl (lv_at hl 1 rfl) ?_
        refine lv_iconst (v := 1) hx hb d_St_keep_66 (by decide) ?_
        refine lv_iadd hx hb d_St_keep_67 ?_
        refine lv_topi (fun x_6 ex_6 => ?_)
        obtain rfl : x_6 = nI (P + 1) := by rw [ex_6]; first | done | (exact nI_add _ _)
        refine va_iald hx hb hK hP 3 0 rfl rfl (vp_in_nI (by omega) (by omega)) d_St_keep_68 ?_
        rw [show (nI (P + 1)).toNatClampNeg = (P + 1) from nI_clamp (by omega)]
        refine lv_topi (fun x_7 ex_7 => ?_)
        obtain rfl : x_7 = nI (D0 + nd) := by rw [ex_7]; first | done | (exact gE1)
        refine lv_icmp_ge (tgt := 150) hx hb d_St_keep_69 (by decide) (fun c_69 => ?_) (fun c_69 => ?_)
        · have n_69 : (D0 + nd) ≤ (D0 + i) := (nI_leI (a := (D0 + nd)) (b := (D0 + i)) (by omega) (by omega)).mp c_69
          have hiT : i = nd := by omega
          refine lv_iconst (v := 0) hx hb d_St_keep_150 (by decide) ?_
          refine lv_istore (lv' := [(4, .int 0), (0, .ref h), (1, .int (nI P)), (2, .int (nI rk)), (3, .int (nI (P * 8)))]) hx hb d_St_keep_151 hl (by decide) rfl (fun ls hl => ?_)
          have loop_153 : ∀ (n9 : Nat) (q : Nat) (lbu : Nat → Int64) (H : Heap) (locs : List Loc) (ls : Array Slot), P - q < n9 → (q ≤ P) → (lbu = lbX lb lou P q) → va_P (dC, dI) classes [(h, .inr (9, [sk_bytes, sk_from, .ref fdA, sk_firstChange, .ref dpA, .ref hs, .ref bh, .ref loA, .ref lbA, sk_changes, sk_lines, .int (nI P)])), (hs, .inl (cB, 16032, .inl hf)), (bh, .inl (cI, 500, .inl (upd (va_cpy bf bf rk (rk + 1) (P - rk)) rk (nI P)))), (fdA, .inl (cI, 502, .inl fdf)), (dpA, .inl (cI, 8400, .inl dpf)), (loA, .inl (cL, 4000, .inr (.inl lou))), (lbA, .inl (cL, 4000, .inr (.inl lbu)))] H → va_D A [(h, .inr (9, [sk_bytes, sk_from, .ref fdA, sk_firstChange, .ref dpA, .ref hs, .ref bh, .ref loA, .ref lbA, sk_changes, sk_lines, .int (nI P)])), (hs, .inl (cB, 16032, .inl hf)), (bh, .inl (cI, 500, .inl (upd (va_cpy bf bf rk (rk + 1) (P - rk)) rk (nI P)))), (fdA, .inl (cI, 502, .inl fdf)), (dpA, .inl (cI, 8400, .inl dpf)), (loA, .inl (cL, 4000, .inr (.inl lou))), (lbA, .inl (cL, 4000, .inr (.inl lbu)))] → va_S A s.heap H locs → lv_has ls 7 [(0, .ref h), (1, .int (nI P)), (2, .int (nI rk)), (3, .int (nI (P * 8))), (4, .int (nI q))] → W p l e (headSpec ws_St_keep ({ frames := 2, cells := 0, slots := 0, locals := 120 })).room s m ([.ref h] : List Value).toArray below meth c H locs 0 0 Q (F0 m 153 ls []) := by
            intro n9
            induction n9 with
            | zero => intro q lbu H locs ls hm; exact absurd hm (Nat.not_lt_zero _)
            | succ n9 ih_153 =>
              intro q lbu H locs ls hm hq hlb hP hD hS hl
              refine lv_iload hx hb d_St_keep_153 (lv_at hl 4 rfl) ?_
              refine lv_iload_n hx hb d_St_keep_155 rfl (lv_at hl 1 rfl) ?_
              refine lv_icmp_ge (tgt := 199) hx hb d_St_keep_156 (by decide) (fun c_156 => ?_) (fun c_156 => ?_)
              · have n_156 : P ≤ q := (nI_leI (a := P) (b := q) (by omega) (by omega)).mp c_156
                have hqP : q = P := by omega
                refine lv_aload_n hx hb d_St_keep_199 rfl (lv_at hl 0 rfl) ?_
                refine lv_dup hx hb d_St_keep_200 rfl ?_
                refine va_get (D := (dC, dI)) (ci := 9) (v := .int (nI P)) (C := R_St) (T := F_St) (N := 12) hx hb hts i_St hown hK hP 0 rfl rfl 11 (by decide) (hts _ gw_235) (fun _ h9 => h9) rfl d_St_keep_201 ?_
                refine lv_iconst (v := 1) hx hb d_St_keep_204 (by decide) ?_
                refine lv_iadd hx hb d_St_keep_205 ?_
                refine lv_topi (fun x_8 ex_8 => ?_)
                obtain rfl : x_8 = nI (P + 1) := by rw [ex_8]; first | done | (exact nI_add _ _)
                refine va_put (D := (dC, dI)) (ci := 9) (v := .int (nI (P + 1))) (ty := .int) (C := R_St) (T := F_St) (N := 12) hx hb hts i_St t_St t_St_ok n_St hown hK hP hD hS 0 rfl rfl 11 (by decide) (hts _ gw_235) (fun _ h9 => h9) rfl (by decide +kernel) rfl rfl (Nat.le_of_ble_eq_true rfl) d_St_keep_206 (fun H locs hP hD hS => ?_)
                have hP : va_P (dC, dI) classes [(h, .inr (9, [sk_bytes, sk_from, .ref fdA, sk_firstChange, .ref dpA, .ref hs, .ref bh, .ref loA, .ref lbA, sk_changes, sk_lines, .int (nI (P + 1))])), (hs, .inl (cB, 16032, .inl hf)), (bh, .inl (cI, 500, .inl (upd (va_cpy bf bf rk (rk + 1) (P - rk)) rk (nI P)))), (fdA, .inl (cI, 502, .inl fdf)), (dpA, .inl (cI, 8400, .inl dpf)), (loA, .inl (cL, 4000, .inr (.inl lou))), (lbA, .inl (cL, 4000, .inr (.inl lbu)))] H := hP
                have hD : va_D A [(h, .inr (9, [sk_bytes, sk_from, .ref fdA, sk_firstChange, .ref dpA, .ref hs, .ref bh, .ref loA, .ref lbA, sk_changes, sk_lines, .int (nI (P + 1))])), (hs, .inl (cB, 16032, .inl hf)), (bh, .inl (cI, 500, .inl (upd (va_cpy bf bf rk (rk + 1) (P - rk)) rk (nI P)))), (fdA, .inl (cI, 502, .inl fdf)), (dpA, .inl (cI, 8400, .inl dpf)), (loA, .inl (cL, 4000, .inr (.inl lou))), (lbA, .inl (cL, 4000, .inr (.inl lbu)))] := hD
                rw [← hQe]
                exact W.vret hx hb hr (fun t ht hW => ⟨⟨(lou, rk, lbu), rfl, ⟨hiT ▸ hLn, hrk, by rw [hlb, hqP]⟩, by rw [ht]; exact hP, va_K.moved hW.alike hK, hD⟩, hS.F ht⟩) hS.2.2 d_St_keep_209
              · have n_156 : q < P := Nat.lt_of_not_le (fun z => c_156 ((nI_leI (a := P) (b := q) (by omega) (by omega)).mpr z))
                refine lv_aload_n hx hb d_St_keep_159 rfl (lv_at hl 0 rfl) ?_
                refine lv_iload_n hx hb d_St_keep_160 rfl (lv_at hl 1 rfl) ?_
                refine lv_iload hx hb d_St_keep_161 (lv_at hl 4 rfl) ?_
                have hPc := hP.sub (ws' := [(h, .inr (9, [sk_bytes, sk_from, .ref fdA, sk_firstChange, .ref dpA, .ref hs, .ref bh, .ref loA, .ref lbA, sk_changes, sk_lines, .int (nI P)])), (loA, .inl (cL, 4000, .inr (.inl lou)))]) [0, 5] rfl
                have hDc := hD.sub (ws' := [(h, .inr (9, [sk_bytes, sk_from, .ref fdA, sk_firstChange, .ref dpA, .ref hs, .ref bh, .ref loA, .ref lbA, sk_changes, sk_lines, .int (nI P)])), (loA, .inl (cL, 4000, .inr (.inl lou)))]) [0, 5] (by decide) rfl
                have hFc := va_free (wc := [(h, .inr (9, [sk_bytes, sk_from, .ref fdA, sk_firstChange, .ref dpA, .ref hs, .ref bh, .ref loA, .ref lbA, sk_changes, sk_lines, .int (nI P)])), (loA, .inl (cL, 4000, .inr (.inl lou)))]) hD hS hA [0, 5] rfl
                refine va_calli (va_runV (As := [.int (nI P), .int (nI q)]) (rest := []) ⟨hx, hb, hml, hown, hts⟩ (m_St_leans l dC dI cI cB cL cZ cR h loA (sk_bytes) (sk_from) (.ref fdA) (sk_firstChange) (.ref dpA) (.ref hs) (.ref bh) (.ref lbA) (sk_changes) (sk_lines) (.int (nI P)) lou P q H.size (by omega) (by omega)) (cwV 2 hts (xg_V gw_971 gw_972 gw_973 gw_3 gw_974) rfl rfl rfl (by decide +kernel) ⟨Nat.le_of_ble_eq_true rfl, Nat.le_of_ble_eq_true rfl⟩) ⟨xw_blind, va_recv hK hPc (ci := 9) (q0 := 0) rfl rfl, fun U hU hW => ⟨rfl, by rw [hU], by rw [hU]; exact hPc, va_K.moved hW.alike hK, hDc.weaken (fun _ _ _ _ => trivial)⟩⟩ rfl rfl hl.1 rfl (lv_room (Nat.le_of_ble_eq_true rfl)) d_St_keep_163 ⟨Nat.le_of_ble_eq_true rfl, Nat.le_of_ble_eq_true rfl⟩) hS (fun q _ h => hFc q h) hFc (fun r9 u t H1 locs ht hvm hw hB hz1 hk1 hS => ?_)
                obtain ⟨hP1, hK1, hD1⟩ := hB
                rw [ht] at hP1
                obtain ⟨hP, hD⟩ := va_join (wr := [(hs, .inl (cB, 16032, .inl hf)), (bh, .inl (cI, 500, .inl (upd (va_cpy bf bf rk (rk + 1) (P - rk)) rk (nI P)))), (fdA, .inl (cI, 502, .inl fdf)), (dpA, .inl (cI, 8400, .inl dpf)), (lbA, .inl (cL, 4000, .inr (.inl lbu)))]) (w1 := [(h, .inr (9, [sk_bytes, sk_from, .ref fdA, sk_firstChange, .ref dpA, .ref hs, .ref bh, .ref loA, .ref lbA, sk_changes, sk_lines, .int (nI P)])), (loA, .inl (cL, 4000, .inr (.inl lou)))]) hP hD [0, 5] [1, 2, 3, 4, 6] rfl rfl (by decide) (by decide) hk1 hFc hP1 hD1
                generalize H1 = H at hP hS ⊢
                have hP : va_P (dC, dI) classes [(hs, .inl (cB, 16032, .inl hf)), (bh, .inl (cI, 500, .inl (upd (va_cpy bf bf rk (rk + 1) (P - rk)) rk (nI P)))), (fdA, .inl (cI, 502, .inl fdf)), (dpA, .inl (cI, 8400, .inl dpf)), (lbA, .inl (cL, 4000, .inr (.inl lbu))), (h, .inr (9, [sk_bytes, sk_from, .ref fdA, sk_firstChange, .ref dpA, .ref hs, .ref bh, .ref loA, .ref lbA, sk_changes, sk_lines, .int (nI P)])), (loA, .inl (cL, 4000, .inr (.inl lou)))] H := hP
                have hD : va_D A [(hs, .inl (cB, 16032, .inl hf)), (bh, .inl (cI, 500, .inl (upd (va_cpy bf bf rk (rk + 1) (P - rk)) rk (nI P)))), (fdA, .inl (cI, 502, .inl fdf)), (dpA, .inl (cI, 8400, .inl dpf)), (lbA, .inl (cL, 4000, .inr (.inl lbu))), (h, .inr (9, [sk_bytes, sk_from, .ref fdA, sk_firstChange, .ref dpA, .ref hs, .ref bh, .ref loA, .ref lbA, sk_changes, sk_lines, .int (nI P)])), (loA, .inl (cL, 4000, .inr (.inl lou)))] := hD
                rcases hw with ⟨rfl, hln⟩ | ⟨rfl, hln⟩
                · have hP : va_P (dC, dI) classes [(hs, .inl (cB, 16032, .inl hf)), (bh, .inl (cI, 500, .inl (upd (va_cpy bf bf rk (rk + 1) (P - rk)) rk (nI P)))), (fdA, .inl (cI, 502, .inl fdf)), (dpA, .inl (cI, 8400, .inl dpf)), (lbA, .inl (cL, 4000, .inr (.inl lbu))), (h, .inr (9, [sk_bytes, sk_from, .ref fdA, sk_firstChange, .ref dpA, .ref hs, .ref bh, .ref loA, .ref lbA, sk_changes, sk_lines, .int (nI P)])), (loA, .inl (cL, 4000, .inr (.inl lou)))] H := hP
                  have hD : va_D A [(hs, .inl (cB, 16032, .inl hf)), (bh, .inl (cI, 500, .inl (upd (va_cpy bf bf rk (rk + 1) (P - rk)) rk (nI P)))), (fdA, .inl (cI, 502, .inl fdf)), (dpA, .inl (cI, 8400, .inl dpf)), (lbA, .inl (cL, 4000, .inr (.inl lbu))), (h, .inr (9, [sk_bytes, sk_from, .ref fdA, sk_firstChange, .ref dpA, .ref hs, .ref bh, .ref loA, .ref lbA, sk_changes, sk_lines, .int (nI P)])), (loA, .inl (cL, 4000, .inr (.inl lou)))] := hD
                  refine lv_if_eq (tgt := 193) hx hb d_St_keep_166 (by decide) (fun c_166 => absurd c_166 (by decide)) (fun _ => ?_)
                  refine lv_aload_n hx hb d_St_keep_169 rfl (lv_at hl 0 rfl) ?_
                  refine va_get (D := (dC, dI)) (ci := 9) (v := .ref lbA) (C := R_St) (T := F_St) (N := 12) hx hb hts i_St hown hK hP 5 rfl rfl 8 (by decide) (hts _ gw_218) (fun _ h9 => h9) rfl d_St_keep_170 ?_
                  refine lv_iload hx hb d_St_keep_173 (lv_at hl 4 rfl) ?_
                  refine lv_bipush (v := 8) hx hb d_St_keep_175 (by decide) ?_
                  refine lv_imul hx hb d_St_keep_177 ?_
                  refine lv_topi (fun x_9 ex_9 => ?_)
                  obtain rfl : x_9 = nI (q * 8) := by rw [ex_9]; first | done | (exact nI_mul _ _)
                  refine lv_iload_n hx hb d_St_keep_178 rfl (lv_at hl 1 rfl) ?_
                  refine lv_bipush (v := 6) hx hb d_St_keep_179 (by decide) ?_
                  refine lv_ishr hx hb d_St_keep_181 ?_
                  refine lv_topi (fun x_10 ex_10 => ?_)
                  obtain rfl : x_10 = nI (P / 64) := by rw [ex_10]; first | done | (exact pk_shrN (by omega) _ 6 (by decide))
                  refine lv_iadd hx hb d_St_keep_182 ?_
                  refine lv_topi (fun x_11 ex_11 => ?_)
                  obtain rfl : x_11 = nI ((q * 8) + (P / 64)) := by rw [ex_11]; first | done | (exact nI_add _ _)
                  refine lv_dup2_11 hx hb d_St_keep_183 rfl rfl ?_
                  refine va_lald hx hb hK hP 4 2 rfl rfl (vp_in_nI (by omega) (by omega)) d_St_keep_184 ?_
                  rw [show (nI ((q * 8) + (P / 64))).toNatClampNeg = ((q * 8) + (P / 64)) from nI_clamp (by omega)]
                  refine lv_lconst (v := 1) hx hb d_St_keep_185 (by decide) ?_
                  refine lv_iload_n hx hb d_St_keep_186 rfl (lv_at hl 1 rfl) ?_
                  refine lv_bipush (v := 63) hx hb d_St_keep_187 (by decide) ?_
                  refine lv_iand hx hb d_St_keep_189 ?_
                  refine lv_topi (fun x_12 ex_12 => ?_)
                  obtain rfl : x_12 = nI (P % 64) := by rw [ex_12]; first | done | (exact pk_andN (by omega) 6 (by decide))
                  refine lv_lshl hx hb d_St_keep_190 rfl ?_
                  refine lv_lor hx hb d_St_keep_191 ?_
                  refine va_last hx hb hK hP hD hS 4 2 rfl rfl (vp_in_nI (by omega) (by omega)) d_St_keep_192 (fun H locs hP hD hS => ?_)
                  rw [show (nI ((q * 8) + (P / 64))).toNatClampNeg = ((q * 8) + (P / 64)) from nI_clamp (by omega)] at hP hD
                  have hP : va_P (dC, dI) classes [(hs, .inl (cB, 16032, .inl hf)), (bh, .inl (cI, 500, .inl (upd (va_cpy bf bf rk (rk + 1) (P - rk)) rk (nI P)))), (fdA, .inl (cI, 502, .inl fdf)), (dpA, .inl (cI, 8400, .inl dpf)), (lbA, .inl (cL, 4000, .inr (.inl (vp_updL lbu ((q * 8) + (P / 64)) ((lbu ((q * 8) + (P / 64))) ||| (1 <<< ((nI (P % 64) : Int32).toInt64 &&& 63))))))), (h, .inr (9, [sk_bytes, sk_from, .ref fdA, sk_firstChange, .ref dpA, .ref hs, .ref bh, .ref loA, .ref lbA, sk_changes, sk_lines, .int (nI P)])), (loA, .inl (cL, 4000, .inr (.inl lou)))] H := hP
                  have hD : va_D A [(hs, .inl (cB, 16032, .inl hf)), (bh, .inl (cI, 500, .inl (upd (va_cpy bf bf rk (rk + 1) (P - rk)) rk (nI P)))), (fdA, .inl (cI, 502, .inl fdf)), (dpA, .inl (cI, 8400, .inl dpf)), (lbA, .inl (cL, 4000, .inr (.inl (vp_updL lbu ((q * 8) + (P / 64)) ((lbu ((q * 8) + (P / 64))) ||| (1 <<< ((nI (P % 64) : Int32).toInt64 &&& 63))))))), (h, .inr (9, [sk_bytes, sk_from, .ref fdA, sk_firstChange, .ref dpA, .ref hs, .ref bh, .ref loA, .ref lbA, sk_changes, sk_lines, .int (nI P)])), (loA, .inl (cL, 4000, .inr (.inl lou)))] := hD
                  refine lv_iinc (v := nI (q + 1)) (lv' := [(4, .int (nI (q + 1))), (0, .ref h), (1, .int (nI P)), (2, .int (nI rk)), (3, .int (nI (P * 8)))]) hx hb d_St_keep_193 hl (k := 4) rfl (by exact nI_add _ _) (by decide) rfl (fun ls hl => ?_)
                  refine lv_goto (tgt := 153) hx hb d_St_keep_196 (by decide) ?_
                  exact ih_153 (q + 1) (btr_in lbu (q * 8) P) _ _ _ (by omega) (by omega) (by rw [hlb]; exact (lbX_yes hP4 hln).symm) (hP.sub [5, 0, 1, 2, 3, 6, 4] rfl) (hD.sub [5, 0, 1, 2, 3, 6, 4] (by decide) rfl) hS (lv_sub hl [1, 2, 3, 4, 0] rfl)
                · have hP : va_P (dC, dI) classes [(hs, .inl (cB, 16032, .inl hf)), (bh, .inl (cI, 500, .inl (upd (va_cpy bf bf rk (rk + 1) (P - rk)) rk (nI P)))), (fdA, .inl (cI, 502, .inl fdf)), (dpA, .inl (cI, 8400, .inl dpf)), (lbA, .inl (cL, 4000, .inr (.inl lbu))), (h, .inr (9, [sk_bytes, sk_from, .ref fdA, sk_firstChange, .ref dpA, .ref hs, .ref bh, .ref loA, .ref lbA, sk_changes, sk_lines, .int (nI P)])), (loA, .inl (cL, 4000, .inr (.inl lou)))] H := hP
                  have hD : va_D A [(hs, .inl (cB, 16032, .inl hf)), (bh, .inl (cI, 500, .inl (upd (va_cpy bf bf rk (rk + 1) (P - rk)) rk (nI P)))), (fdA, .inl (cI, 502, .inl fdf)), (dpA, .inl (cI, 8400, .inl dpf)), (lbA, .inl (cL, 4000, .inr (.inl lbu))), (h, .inr (9, [sk_bytes, sk_from, .ref fdA, sk_firstChange, .ref dpA, .ref hs, .ref bh, .ref loA, .ref lbA, sk_changes, sk_lines, .int (nI P)])), (loA, .inl (cL, 4000, .inr (.inl lou)))] := hD
                  refine lv_if_eq (tgt := 193) hx hb d_St_keep_166 (by decide) (fun _ => ?_) (fun c_166 => absurd (by decide) c_166)
                  refine lv_iinc (v := nI (q + 1)) (lv' := [(4, .int (nI (q + 1))), (0, .ref h), (1, .int (nI P)), (2, .int (nI rk)), (3, .int (nI (P * 8)))]) hx hb d_St_keep_193 hl (k := 4) rfl (by exact nI_add _ _) (by decide) rfl (fun ls hl => ?_)
                  refine lv_goto (tgt := 153) hx hb d_St_keep_196 (by decide) ?_
                  exact ih_153 (q + 1) lbu _ _ _ (by omega) (by omega) (by rw [hlb]; exact (lbX_no hln).symm) (hP.sub [5, 0, 1, 2, 3, 6, 4] rfl) (hD.sub [5, 0, 1, 2, 3, 6, 4] (by decide) rfl) hS (lv_sub hl [1, 2, 3, 4, 0] rfl)
          exact loop_153 _ 0 lb _ _ _ (Nat.lt_succ_self _) (Nat.zero_le _) ((lbX_0 _ _ _).symm) hP hD hS (lv_sub hl [1, 2, 3, 4, 0] rfl)
        · have n_69 : (D0 + i) < (D0 + nd) := Nat.lt_of_not_le (fun z => c_69 ((nI_leI (a := (D0 + nd)) (b := (D0 + i)) (by omega) (by omega)).mpr z))
          obtain ⟨hdv, hdi⟩ := gD i (by omega)
          refine lv_aload_n hx hb d_St_keep_72 rfl (lv_at hl 0 rfl) ?_
          refine va_get (D := (dC, dI)) (ci := 9) (v := .ref dpA) (C := R_St) (T := F_St) (N := 12) hx hb hts i_St hown hK hP 0 rfl rfl 4 (by decide) (hts _ gw_202) (fun _ h9 => h9) rfl d_St_keep_73 ?_
          refine lv_iload hx hb d_St_keep_76 (lv_at hl 4 rfl) ?_
          refine va_iald hx hb hK hP 4 0 rfl rfl (vp_in_nI (by omega) (by omega)) d_St_keep_78 ?_
          rw [show (nI (D0 + i)).toNatClampNeg = (D0 + i) from nI_clamp (by omega)]
          refine lv_topi (fun x_13 ex_13 => ?_)
          obtain rfl : x_13 = nI (DP i) := by rw [ex_13]; first | done | (exact hdv)
          refine lv_istore (lv' := [(5, .int (nI (DP i))), (0, .ref h), (1, .int (nI P)), (2, .int (nI rk)), (3, .int (nI (P * 8))), (4, .int (nI (D0 + i)))]) hx hb d_St_keep_79 hl (by decide) rfl (fun ls hl => ?_)
          refine lv_iconst (v := 0) hx hb d_St_keep_81 (by decide) ?_
          refine lv_istore (lv' := [(6, .int 0), (5, .int (nI (DP i))), (0, .ref h), (1, .int (nI P)), (2, .int (nI rk)), (3, .int (nI (P * 8))), (4, .int (nI (D0 + i)))]) hx hb d_St_keep_82 hl (by decide) rfl (fun ls hl => ?_)
          have loop_84 : ∀ (n9 : Nat) (wd : Nat) (lov : Nat → Int64) (H : Heap) (locs : List Loc) (ls : Array Slot), 8 - wd < n9 → (wd ≤ 8) → (∀ k, k < P * 8 ∨ P * 8 + 8 ≤ k → lov k = lo k) → (∀ k, k < 8 → lov (P * 8 + k) = if k < wd then lou (P * 8 + k) ||| lo (DP i * 8 + k) else lou (P * 8 + k)) → va_P (dC, dI) classes [(h, .inr (9, [sk_bytes, sk_from, .ref fdA, sk_firstChange, .ref dpA, .ref hs, .ref bh, .ref loA, .ref lbA, sk_changes, sk_lines, .int (nI P)])), (hs, .inl (cB, 16032, .inl hf)), (bh, .inl (cI, 500, .inl (upd (va_cpy bf bf rk (rk + 1) (P - rk)) rk (nI P)))), (fdA, .inl (cI, 502, .inl fdf)), (dpA, .inl (cI, 8400, .inl dpf)), (loA, .inl (cL, 4000, .inr (.inl lov))), (lbA, .inl (cL, 4000, .inr (.inl lb)))] H → va_D A [(h, .inr (9, [sk_bytes, sk_from, .ref fdA, sk_firstChange, .ref dpA, .ref hs, .ref bh, .ref loA, .ref lbA, sk_changes, sk_lines, .int (nI P)])), (hs, .inl (cB, 16032, .inl hf)), (bh, .inl (cI, 500, .inl (upd (va_cpy bf bf rk (rk + 1) (P - rk)) rk (nI P)))), (fdA, .inl (cI, 502, .inl fdf)), (dpA, .inl (cI, 8400, .inl dpf)), (loA, .inl (cL, 4000, .inr (.inl lov))), (lbA, .inl (cL, 4000, .inr (.inl lb)))] → va_S A s.heap H locs → lv_has ls 7 [(0, .ref h), (1, .int (nI P)), (2, .int (nI rk)), (3, .int (nI (P * 8))), (4, .int (nI (D0 + i))), (5, .int (nI (DP i))), (6, .int (nI wd))] → W p l e (headSpec ws_St_keep ({ frames := 2, cells := 0, slots := 0, locals := 120 })).room s m ([.ref h] : List Value).toArray below meth c H locs 0 0 Q (F0 m 84 ls []) := by
            intro n9
            induction n9 with
            | zero => intro wd lov H locs ls hm; exact absurd hm (Nat.not_lt_zero _)
            | succ n9 ih_84 =>
              intro wd lov H locs ls hm hwd hA2 hC2 hP hD hS hl
              refine lv_iload hx hb d_St_keep_84 (lv_at hl 6 rfl) ?_
              refine lv_bipush (v := 8) hx hb d_St_keep_86 (by decide) ?_
              refine lv_icmp_ge (tgt := 122) hx hb d_St_keep_88 (by decide) (fun c_88 => ?_) (fun c_88 => ?_)
              · have n_88 : 8 ≤ wd := (nI_leI (a := 8) (b := wd) (by omega) (by omega)).mp c_88
                refine lv_aload_n hx hb d_St_keep_122 rfl (lv_at hl 0 rfl) ?_
                refine va_get (D := (dC, dI)) (ci := 9) (v := .ref loA) (C := R_St) (T := F_St) (N := 12) hx hb hts i_St hown hK hP 0 rfl rfl 7 (by decide) (hts _ gw_214) (fun _ h9 => h9) rfl d_St_keep_123 ?_
                refine lv_iload_n hx hb d_St_keep_126 rfl (lv_at hl 3 rfl) ?_
                refine lv_iload hx hb d_St_keep_127 (lv_at hl 5 rfl) ?_
                refine lv_bipush (v := 6) hx hb d_St_keep_129 (by decide) ?_
                refine lv_ishr hx hb d_St_keep_131 ?_
                refine lv_topi (fun x_14 ex_14 => ?_)
                obtain rfl : x_14 = nI ((DP i) / 64) := by rw [ex_14]; first | done | (exact pk_shrN (by omega) _ 6 (by decide))
                refine lv_iadd hx hb d_St_keep_132 ?_
                refine lv_topi (fun x_15 ex_15 => ?_)
                obtain rfl : x_15 = nI ((P * 8) + ((DP i) / 64)) := by rw [ex_15]; first | done | (exact nI_add _ _)
                refine lv_dup2_11 hx hb d_St_keep_133 rfl rfl ?_
                refine va_lald hx hb hK hP 5 2 rfl rfl (vp_in_nI (by omega) (by omega)) d_St_keep_134 ?_
                rw [show (nI ((P * 8) + ((DP i) / 64))).toNatClampNeg = ((P * 8) + ((DP i) / 64)) from nI_clamp (by omega)]
                refine lv_lconst (v := 1) hx hb d_St_keep_135 (by decide) ?_
                refine lv_iload hx hb d_St_keep_136 (lv_at hl 5 rfl) ?_
                refine lv_bipush (v := 63) hx hb d_St_keep_138 (by decide) ?_
                refine lv_iand hx hb d_St_keep_140 ?_
                refine lv_topi (fun x_16 ex_16 => ?_)
                obtain rfl : x_16 = nI ((DP i) % 64) := by rw [ex_16]; first | done | (exact pk_andN (by omega) 6 (by decide))
                refine lv_lshl hx hb d_St_keep_141 rfl ?_
                refine lv_lor hx hb d_St_keep_142 ?_
                refine va_last hx hb hK hP hD hS 5 2 rfl rfl (vp_in_nI (by omega) (by omega)) d_St_keep_143 (fun H locs hP hD hS => ?_)
                rw [show (nI ((P * 8) + ((DP i) / 64))).toNatClampNeg = ((P * 8) + ((DP i) / 64)) from nI_clamp (by omega)] at hP hD
                have hP : va_P (dC, dI) classes [(h, .inr (9, [sk_bytes, sk_from, .ref fdA, sk_firstChange, .ref dpA, .ref hs, .ref bh, .ref loA, .ref lbA, sk_changes, sk_lines, .int (nI P)])), (hs, .inl (cB, 16032, .inl hf)), (bh, .inl (cI, 500, .inl (upd (va_cpy bf bf rk (rk + 1) (P - rk)) rk (nI P)))), (fdA, .inl (cI, 502, .inl fdf)), (dpA, .inl (cI, 8400, .inl dpf)), (loA, .inl (cL, 4000, .inr (.inl (vp_updL lov ((P * 8) + ((DP i) / 64)) ((lov ((P * 8) + ((DP i) / 64))) ||| (1 <<< ((nI ((DP i) % 64) : Int32).toInt64 &&& 63))))))), (lbA, .inl (cL, 4000, .inr (.inl lb)))] H := hP
                have hD : va_D A [(h, .inr (9, [sk_bytes, sk_from, .ref fdA, sk_firstChange, .ref dpA, .ref hs, .ref bh, .ref loA, .ref lbA, sk_changes, sk_lines, .int (nI P)])), (hs, .inl (cB, 16032, .inl hf)), (bh, .inl (cI, 500, .inl (upd (va_cpy bf bf rk (rk + 1) (P - rk)) rk (nI P)))), (fdA, .inl (cI, 502, .inl fdf)), (dpA, .inl (cI, 8400, .inl dpf)), (loA, .inl (cL, 4000, .inr (.inl (vp_updL lov ((P * 8) + ((DP i) / 64)) ((lov ((P * 8) + ((DP i) / 64))) ||| (1 <<< ((nI ((DP i) % 64) : Int32).toInt64 &&& 63))))))), (lbA, .inl (cL, 4000, .inr (.inl lb)))] := hD
                refine lv_iinc (v := nI (D0 + i + 1)) (lv' := [(4, .int (nI (D0 + i + 1))), (0, .ref h), (1, .int (nI P)), (2, .int (nI rk)), (3, .int (nI (P * 8))), (5, .int (nI (DP i))), (6, .int (nI wd))]) hx hb d_St_keep_144 hl (k := 4) rfl (by exact nI_add _ _) (by decide) rfl (fun ls hl => ?_)
                refine lv_goto (tgt := 59) hx hb d_St_keep_147 (by decide) ?_
                exact ih_59 (i + 1) (btr_in lov (P * 8) (DP i)) _ _ _ (by omega) (by omega) (lnO.step hLn hdi hP4 hA2 (fun k z => by rw [hC2 k z, if_pos (by omega)])) hP hD hS (lv_sub hl [1, 2, 3, 4, 0] rfl)
              · have n_88 : wd < 8 := Nat.lt_of_not_le (fun z => c_88 ((nI_leI (a := 8) (b := wd) (by omega) (by omega)).mpr z))
                refine lv_aload_n hx hb d_St_keep_91 rfl (lv_at hl 0 rfl) ?_
                refine va_get (D := (dC, dI)) (ci := 9) (v := .ref loA) (C := R_St) (T := F_St) (N := 12) hx hb hts i_St hown hK hP 0 rfl rfl 7 (by decide) (hts _ gw_214) (fun _ h9 => h9) rfl d_St_keep_92 ?_
                refine lv_iload_n hx hb d_St_keep_95 rfl (lv_at hl 3 rfl) ?_
                refine lv_iload hx hb d_St_keep_96 (lv_at hl 6 rfl) ?_
                refine lv_iadd hx hb d_St_keep_98 ?_
                refine lv_topi (fun x_17 ex_17 => ?_)
                obtain rfl : x_17 = nI ((P * 8) + wd) := by rw [ex_17]; first | done | (exact nI_add _ _)
                refine lv_dup2_11 hx hb d_St_keep_99 rfl rfl ?_
                refine va_lald hx hb hK hP 5 2 rfl rfl (vp_in_nI (by omega) (by omega)) d_St_keep_100 ?_
                rw [show (nI ((P * 8) + wd)).toNatClampNeg = ((P * 8) + wd) from nI_clamp (by omega)]
                refine lv_aload_n hx hb d_St_keep_101 rfl (lv_at hl 0 rfl) ?_
                refine va_get (D := (dC, dI)) (ci := 9) (v := .ref loA) (C := R_St) (T := F_St) (N := 12) hx hb hts i_St hown hK hP 0 rfl rfl 7 (by decide) (hts _ gw_214) (fun _ h9 => h9) rfl d_St_keep_102 ?_
                refine lv_iload hx hb d_St_keep_105 (lv_at hl 5 rfl) ?_
                refine lv_bipush (v := 8) hx hb d_St_keep_107 (by decide) ?_
                refine lv_imul hx hb d_St_keep_109 ?_
                refine lv_topi (fun x_18 ex_18 => ?_)
                obtain rfl : x_18 = nI ((DP i) * 8) := by rw [ex_18]; first | done | (exact nI_mul _ _)
                refine lv_iload hx hb d_St_keep_110 (lv_at hl 6 rfl) ?_
                refine lv_iadd hx hb d_St_keep_112 ?_
                refine lv_topi (fun x_19 ex_19 => ?_)
                obtain rfl : x_19 = nI (((DP i) * 8) + wd) := by rw [ex_19]; first | done | (exact nI_add _ _)
                refine va_lald hx hb hK hP 5 2 rfl rfl (vp_in_nI (by omega) (by omega)) d_St_keep_113 ?_
                rw [show (nI (((DP i) * 8) + wd)).toNatClampNeg = (((DP i) * 8) + wd) from nI_clamp (by omega)]
                refine lv_lor hx hb d_St_keep_114 ?_
                refine va_last hx hb hK hP hD hS 5 2 rfl rfl (vp_in_nI (by omega) (by omega)) d_St_keep_115 (fun H locs hP hD hS => ?_)
                rw [show (nI ((P * 8) + wd)).toNatClampNeg = ((P * 8) + wd) from nI_clamp (by omega)] at hP hD
                have hP : va_P (dC, dI) classes [(h, .inr (9, [sk_bytes, sk_from, .ref fdA, sk_firstChange, .ref dpA, .ref hs, .ref bh, .ref loA, .ref lbA, sk_changes, sk_lines, .int (nI P)])), (hs, .inl (cB, 16032, .inl hf)), (bh, .inl (cI, 500, .inl (upd (va_cpy bf bf rk (rk + 1) (P - rk)) rk (nI P)))), (fdA, .inl (cI, 502, .inl fdf)), (dpA, .inl (cI, 8400, .inl dpf)), (loA, .inl (cL, 4000, .inr (.inl (vp_updL lov ((P * 8) + wd) ((lov ((P * 8) + wd)) ||| (lov (((DP i) * 8) + wd))))))), (lbA, .inl (cL, 4000, .inr (.inl lb)))] H := hP
                have hD : va_D A [(h, .inr (9, [sk_bytes, sk_from, .ref fdA, sk_firstChange, .ref dpA, .ref hs, .ref bh, .ref loA, .ref lbA, sk_changes, sk_lines, .int (nI P)])), (hs, .inl (cB, 16032, .inl hf)), (bh, .inl (cI, 500, .inl (upd (va_cpy bf bf rk (rk + 1) (P - rk)) rk (nI P)))), (fdA, .inl (cI, 502, .inl fdf)), (dpA, .inl (cI, 8400, .inl dpf)), (loA, .inl (cL, 4000, .inr (.inl (vp_updL lov ((P * 8) + wd) ((lov ((P * 8) + wd)) ||| (lov (((DP i) * 8) + wd))))))), (lbA, .inl (cL, 4000, .inr (.inl lb)))] := hD
                refine lv_iinc (v := nI (wd + 1)) (lv' := [(6, .int (nI (wd + 1))), (0, .ref h), (1, .int (nI P)), (2, .int (nI rk)), (3, .int (nI (P * 8))), (4, .int (nI (D0 + i))), (5, .int (nI (DP i)))]) hx hb d_St_keep_116 hl (k := 6) rfl (by exact nI_add _ _) (by decide) rfl (fun ls hl => ?_)
                refine lv_goto (tgt := 84) hx hb d_St_keep_119 (by decide) ?_
                exact ih_84 (wd + 1) (vp_updL lov (P * 8 + wd) (lov (P * 8 + wd) ||| lov (DP i * 8 + wd))) _ _ _ (by omega) (by omega) (fun k z => (vpL_ne _ (by omega)).trans (hA2 k z)) (lnC hA2 hdi n_88 hC2) hP hD hS (lv_sub hl [1, 2, 3, 4, 5, 6, 0] rfl)
          exact loop_84 _ 0 lou _ _ _ (Nat.lt_succ_self _) (Nat.zero_le _) (hLn.1) (fun k z => (if_neg (Nat.not_lt_zero _)).symm) hP hD hS (lv_sub hl [2, 3, 4, 5, 6, 1, 0] rfl)
    exact loop_59 _ 0 lo _ _ _ (Nat.lt_succ_self _) (Nat.zero_le _) (lnO.zero _ _ _) (hP.sub [4, 5, 6, 0, 1, 2, 3] rfl) (hD.sub [4, 5, 6, 0, 1, 2, 3] (by decide) rfl) hS (lv_sub hl [4, 3, 2, 1, 0] rfl)
end
