section
/-! 65.resolve.lean.txt -/
theorem gw_291 : (Jvm.Cond.fieldLink "PatchStore$Intake" (140 : Nat) "PatchStore$Intake" "nextFile" "I") ∈ xg_1 := xg_s2 51 rfl rfl
theorem gw_876 : (Jvm.Cond.methodLink "PatchStore$Intake" (167 : Nat) ({ cls := "PatchStore$Intake", name := "resolveCall", desc := "(II)I" } : Jvm.MethodName)) ∈ xg_1 := xg_s4 156 rfl rfl
theorem gw_878 : (Jvm.Cond.instanceMethod ({ cls := "PatchStore$Intake", name := "resolveCall", desc := "(II)I" } : Jvm.MethodName)) ∈ xg_1 := xg_s4 158 rfl rfl
theorem gw_879 : (Jvm.Cond.code ({ cls := "PatchStore$Intake", name := "resolveCall", desc := "(II)I" } : Jvm.MethodName) prog_4_method_7_code (8 : Nat) (Option.some Jvm.ClassFile.FieldType.int)) ∈ xg_1 := xg_s4 159 rfl rfl
theorem gw_906 : (Jvm.Cond.methodLink "PatchStore$Intake" (170 : Nat) ({ cls := "PatchStore$Intake", name := "resolveInsert", desc := "(II)I" } : Jvm.MethodName)) ∈ xg_1 := xg_s4 186 rfl rfl
theorem gw_908 : (Jvm.Cond.instanceMethod ({ cls := "PatchStore$Intake", name := "resolveInsert", desc := "(II)I" } : Jvm.MethodName)) ∈ xg_1 := xg_s4 188 rfl rfl
theorem gw_909 : (Jvm.Cond.code ({ cls := "PatchStore$Intake", name := "resolveInsert", desc := "(II)I" } : Jvm.MethodName) prog_4_method_9_code (6 : Nat) (Option.some Jvm.ClassFile.FieldType.int)) ∈ xg_1 := xg_s4 189 rfl rfl
theorem gw_923 : (Jvm.Cond.methodLink "PatchStore$Intake" (176 : Nat) ({ cls := "PatchStore$Intake", name := "resolveOrder", desc := "(II)I" } : Jvm.MethodName)) ∈ xg_1 := xg_s4 203 rfl rfl
theorem gw_925 : (Jvm.Cond.instanceMethod ({ cls := "PatchStore$Intake", name := "resolveOrder", desc := "(II)I" } : Jvm.MethodName)) ∈ xg_1 := xg_s4 205 rfl rfl
theorem gw_926 : (Jvm.Cond.code ({ cls := "PatchStore$Intake", name := "resolveOrder", desc := "(II)I" } : Jvm.MethodName) prog_4_method_10_code (5 : Nat) (Option.some Jvm.ClassFile.FieldType.int)) ∈ xg_1 := xg_s4 206 rfl rfl
def y_In_resolve : MethodName := ⟨"PatchStore$Intake", "resolve", "(II)I"⟩
abbrev c_In_resolve : Cond := (Jvm.Cond.code ({ cls := "PatchStore$Intake", name := "resolve", desc := "(II)I" } : Jvm.MethodName) prog_4_method_6_code (3 : Nat) (Option.some Jvm.ClassFile.FieldType.int))
abbrev ws_In_resolve : List Cond := c_In_resolve :: xg_1
theorem d_In_resolve_0 : decode prog_4_method_6_code 0 = .ok (.aload_n 0, 1) := by decide +kernel
theorem d_In_resolve_1 : decode prog_4_method_6_code 1 = .ok (.getfield 18, 3) := by decide +kernel
theorem d_In_resolve_4 : decode prog_4_method_6_code 4 = .ok (.getfield 98, 3) := by decide +kernel
theorem d_In_resolve_7 : decode prog_4_method_6_code 7 = .ok (.iload_n 2, 1) := by decide +kernel
theorem d_In_resolve_8 : decode prog_4_method_6_code 8 = .ok (.baload, 1) := by decide +kernel
theorem d_In_resolve_9 : decode prog_4_method_6_code 9 = .ok (.tableswitch 71 0 3 #[31, 48, 55, 62], 31) := by decide +kernel
theorem d_In_resolve_40 : decode prog_4_method_6_code 40 = .ok (.aload_n 0, 1) := by decide +kernel
theorem d_In_resolve_41 : decode prog_4_method_6_code 41 = .ok (.dup, 1) := by decide +kernel
theorem d_In_resolve_42 : decode prog_4_method_6_code 42 = .ok (.getfield 140, 3) := by decide +kernel
theorem d_In_resolve_45 : decode prog_4_method_6_code 45 = .ok (.iconst 1, 1) := by decide +kernel
theorem d_In_resolve_46 : decode prog_4_method_6_code 46 = .ok (.iadd, 1) := by decide +kernel
theorem d_In_resolve_47 : decode prog_4_method_6_code 47 = .ok (.putfield 140, 3) := by decide +kernel
theorem d_In_resolve_50 : decode prog_4_method_6_code 50 = .ok (.aload_n 0, 1) := by decide +kernel
theorem d_In_resolve_51 : decode prog_4_method_6_code 51 = .ok (.getfield 140, 3) := by decide +kernel
theorem d_In_resolve_54 : decode prog_4_method_6_code 54 = .ok (.iconst 1, 1) := by decide +kernel
theorem d_In_resolve_55 : decode prog_4_method_6_code 55 = .ok (.isub, 1) := by decide +kernel
theorem d_In_resolve_56 : decode prog_4_method_6_code 56 = .ok (.ireturn, 1) := by decide +kernel
theorem d_In_resolve_57 : decode prog_4_method_6_code 57 = .ok (.aload_n 0, 1) := by decide +kernel
theorem d_In_resolve_58 : decode prog_4_method_6_code 58 = .ok (.iload_n 1, 1) := by decide +kernel
theorem d_In_resolve_59 : decode prog_4_method_6_code 59 = .ok (.iload_n 2, 1) := by decide +kernel
theorem d_In_resolve_60 : decode prog_4_method_6_code 60 = .ok (.invokevirtual 167, 3) := by decide +kernel
theorem d_In_resolve_63 : decode prog_4_method_6_code 63 = .ok (.ireturn, 1) := by decide +kernel
theorem d_In_resolve_64 : decode prog_4_method_6_code 64 = .ok (.aload_n 0, 1) := by decide +kernel
theorem d_In_resolve_65 : decode prog_4_method_6_code 65 = .ok (.iload_n 1, 1) := by decide +kernel
theorem d_In_resolve_66 : decode prog_4_method_6_code 66 = .ok (.iload_n 2, 1) := by decide +kernel
theorem d_In_resolve_67 : decode prog_4_method_6_code 67 = .ok (.invokevirtual 170, 3) := by decide +kernel
theorem d_In_resolve_70 : decode prog_4_method_6_code 70 = .ok (.ireturn, 1) := by decide +kernel
theorem d_In_resolve_71 : decode prog_4_method_6_code 71 = .ok (.aload_n 0, 1) := by decide +kernel
theorem d_In_resolve_72 : decode prog_4_method_6_code 72 = .ok (.iload_n 1, 1) := by decide +kernel
theorem d_In_resolve_73 : decode prog_4_method_6_code 73 = .ok (.iload_n 2, 1) := by decide +kernel
theorem d_In_resolve_74 : decode prog_4_method_6_code 74 = .ok (.iconst 1, 1) := by decide +kernel
theorem d_In_resolve_75 : decode prog_4_method_6_code 75 = .ok (.iadd, 1) := by decide +kernel
theorem d_In_resolve_76 : decode prog_4_method_6_code 76 = .ok (.invokevirtual 173, 3) := by decide +kernel
theorem d_In_resolve_79 : decode prog_4_method_6_code 79 = .ok (.ireturn, 1) := by decide +kernel
theorem d_In_resolve_80 : decode prog_4_method_6_code 80 = .ok (.aload_n 0, 1) := by decide +kernel
theorem d_In_resolve_81 : decode prog_4_method_6_code 81 = .ok (.iload_n 1, 1) := by decide +kernel
theorem d_In_resolve_82 : decode prog_4_method_6_code 82 = .ok (.iload_n 2, 1) := by decide +kernel
theorem d_In_resolve_83 : decode prog_4_method_6_code 83 = .ok (.invokevirtual 176, 3) := by decide +kernel
theorem d_In_resolve_86 : decode prog_4_method_6_code 86 = .ok (.ireturn, 1) := by decide +kernel
def y_In_allNamed : MethodName := ⟨"PatchStore$Intake", "allNamed", "()Z"⟩
abbrev c_In_allNamed : Cond := (Jvm.Cond.code ({ cls := "PatchStore$Intake", name := "allNamed", desc := "()Z" } : Jvm.MethodName) prog_4_method_14_code (3 : Nat) (Option.some Jvm.ClassFile.FieldType.boolean))
abbrev ws_In_allNamed : List Cond := c_In_allNamed :: xg_1
theorem d_In_allNamed_0 : decode prog_4_method_14_code 0 = .ok (.aload_n 0, 1) := by decide +kernel
theorem d_In_allNamed_1 : decode prog_4_method_14_code 1 = .ok (.getfield 18, 3) := by decide +kernel
theorem d_In_allNamed_4 : decode prog_4_method_14_code 4 = .ok (.getfield 95, 3) := by decide +kernel
theorem d_In_allNamed_7 : decode prog_4_method_14_code 7 = .ok (.aload_n 0, 1) := by decide +kernel
theorem d_In_allNamed_8 : decode prog_4_method_14_code 8 = .ok (.getfield 18, 3) := by decide +kernel
theorem d_In_allNamed_11 : decode prog_4_method_14_code 11 = .ok (.getfield 84, 3) := by decide +kernel
theorem d_In_allNamed_14 : decode prog_4_method_14_code 14 = .ok (.iconst 1, 1) := by decide +kernel
theorem d_In_allNamed_15 : decode prog_4_method_14_code 15 = .ok (.iadd, 1) := by decide +kernel
theorem d_In_allNamed_16 : decode prog_4_method_14_code 16 = .ok (.iaload, 1) := by decide +kernel
theorem d_In_allNamed_17 : decode prog_4_method_14_code 17 = .ok (.aload_n 0, 1) := by decide +kernel
theorem d_In_allNamed_18 : decode prog_4_method_14_code 18 = .ok (.getfield 18, 3) := by decide +kernel
theorem d_In_allNamed_21 : decode prog_4_method_14_code 21 = .ok (.getfield 95, 3) := by decide +kernel
theorem d_In_allNamed_24 : decode prog_4_method_14_code 24 = .ok (.aload_n 0, 1) := by decide +kernel
theorem d_In_allNamed_25 : decode prog_4_method_14_code 25 = .ok (.getfield 18, 3) := by decide +kernel
theorem d_In_allNamed_28 : decode prog_4_method_14_code 28 = .ok (.getfield 84, 3) := by decide +kernel
theorem d_In_allNamed_31 : decode prog_4_method_14_code 31 = .ok (.iaload, 1) := by decide +kernel
theorem d_In_allNamed_32 : decode prog_4_method_14_code 32 = .ok (.isub, 1) := by decide +kernel
theorem d_In_allNamed_33 : decode prog_4_method_14_code 33 = .ok (.istore_n 1, 1) := by decide +kernel
theorem d_In_allNamed_34 : decode prog_4_method_14_code 34 = .ok (.iconst 0, 1) := by decide +kernel
theorem d_In_allNamed_35 : decode prog_4_method_14_code 35 = .ok (.istore_n 2, 1) := by decide +kernel
theorem d_In_allNamed_36 : decode prog_4_method_14_code 36 = .ok (.iload_n 2, 1) := by decide +kernel
theorem d_In_allNamed_37 : decode prog_4_method_14_code 37 = .ok (.iload_n 1, 1) := by decide +kernel
theorem d_In_allNamed_38 : decode prog_4_method_14_code 38 = .ok (.if_icmp .ge 20, 3) := by decide +kernel
theorem d_In_allNamed_41 : decode prog_4_method_14_code 41 = .ok (.aload_n 0, 1) := by decide +kernel
theorem d_In_allNamed_42 : decode prog_4_method_14_code 42 = .ok (.getfield 9, 3) := by decide +kernel
theorem d_In_allNamed_45 : decode prog_4_method_14_code 45 = .ok (.iload_n 2, 1) := by decide +kernel
theorem d_In_allNamed_46 : decode prog_4_method_14_code 46 = .ok (.iaload, 1) := by decide +kernel
theorem d_In_allNamed_47 : decode prog_4_method_14_code 47 = .ok (.ifCond .ne 5, 3) := by decide +kernel
theorem d_In_allNamed_50 : decode prog_4_method_14_code 50 = .ok (.iconst 0, 1) := by decide +kernel
theorem d_In_allNamed_51 : decode prog_4_method_14_code 51 = .ok (.ireturn, 1) := by decide +kernel
theorem d_In_allNamed_52 : decode prog_4_method_14_code 52 = .ok (.iinc 2 1, 3) := by decide +kernel
theorem d_In_allNamed_55 : decode prog_4_method_14_code 55 = .ok (.goto (-19), 3) := by decide +kernel
theorem d_In_allNamed_58 : decode prog_4_method_14_code 58 = .ok (.iconst 1, 1) := by decide +kernel
theorem d_In_allNamed_59 : decode prog_4_method_14_code 59 = .ok (.ireturn, 1) := by decide +kernel
/-- the file of the change at a -/
def rsR (f : Nat → Int32) (DP FC CA CF CL : Nat → Nat) (P nd cc NF a y : Nat) : Prop := (f a = 0 ∧ y = NF) ∨ (f a = 1 ∧ clR f DP FC CA CF P nd cc a y) ∨ (f a = 2 ∧ inR f DP FC CA CF P nd cc a y) ∨ (f a = 3 ∧ flR f DP FC CA CF P nd cc (a + 1) y) ∨ (f a = 4 ∧ orR f DP FC CA CF CL P nd cc a y)
def nmX (f : Nat → Int32) (nd a : Nat) (nf : Nat → Int32) : Nat → Int32 := if f a = 0 then nf else if f a = 1 then nmUs f nd (a + 6) (b8 (f (a + 5))) (nmU f nd (a + 1) nf) else if f a = 2 then nmI f nd a nf else if f a = 3 then nmU f nd (a + 1) nf else nmU f nd (a + 7) (nmU f nd (a + 1) nf)
def flX (f : Nat → Int32) (cc NL a : Nat) (flf : Nat → Int32) : Nat → Int32 := if f a = 2 then upd flf cc (nI NL) else flf
def NLX (f : Nat → Int32) (NL a : Nat) : Nat := if f a = 2 then NL + tw f (lnAt f a) else NL
def NFX (f : Nat → Int32) (NF a : Nat) : Nat := if f a = 0 then NF + 1 else NF
theorem rsR_1 {f : Nat → Int32} {DP FC CA CF CL : Nat → Nat} {P nd cc NF a y : Nat} (h : f a = 1) (z : rsR f DP FC CA CF CL P nd cc NF a y) : clR f DP FC CA CF P nd cc a y := by
  rcases z with ⟨z, r⟩ | ⟨z, r⟩ | ⟨z, r⟩ | ⟨z, r⟩ | ⟨z, r⟩ <;> first | exact r | (rw [h] at z; exact absurd z (by decide))
theorem rsR_2 {f : Nat → Int32} {DP FC CA CF CL : Nat → Nat} {P nd cc NF a y : Nat} (h : f a = 2) (z : rsR f DP FC CA CF CL P nd cc NF a y) : inR f DP FC CA CF P nd cc a y := by
  rcases z with ⟨z, r⟩ | ⟨z, r⟩ | ⟨z, r⟩ | ⟨z, r⟩ | ⟨z, r⟩ <;> first | exact r | (rw [h] at z; exact absurd z (by decide))
theorem rsR_3 {f : Nat → Int32} {DP FC CA CF CL : Nat → Nat} {P nd cc NF a y : Nat} (h : f a = 3) (z : rsR f DP FC CA CF CL P nd cc NF a y) : flR f DP FC CA CF P nd cc (a + 1) y := by
  rcases z with ⟨z, r⟩ | ⟨z, r⟩ | ⟨z, r⟩ | ⟨z, r⟩ | ⟨z, r⟩ <;> first | exact r | (rw [h] at z; exact absurd z (by decide))
theorem rsR_4 {f : Nat → Int32} {DP FC CA CF CL : Nat → Nat} {P nd cc NF a y : Nat} (h : f a = 4) (z : rsR f DP FC CA CF CL P nd cc NF a y) : orR f DP FC CA CF CL P nd cc a y := by
  rcases z with ⟨z, r⟩ | ⟨z, r⟩ | ⟨z, r⟩ | ⟨z, r⟩ | ⟨z, r⟩ <;> first | exact r | (rw [h] at z; exact absurd z (by decide))
set_option maxHeartbeats 4000000 in
set_option maxRecDepth 100000 in
/-- the file of a change of the candidate -/
theorem m_In_resolve (l : Launch) (dC : Nat → ClassId) (dI : Nat → Nat → Nat) (cI cB cL cZ cR : ClassId) (h sk b_y fdA dpA fcA naA ch cat cfA flA : Nat) (it_lines it_sha it_form it_linesOfFile sk_from sk_hashes sk_byHash sk_leansOn sk_leantBy sk_lines ch_patch ch_adds ch_files : Value) (f fdf dpf fcf nf ca cff flf : Nat → Int32) (DP FC CA CF CL : Nat → Nat) (P D0 nd cc a NL NF : Nat) (sz : Nat) (ha : a < 290000) (gK : ∃ j, j < 5 ∧ f a = nI j) (gB1 : f a = 1 → a + 6 + 4 * b8 (f (a + 5)) + 4 < 290000) (gB2 : f a = 2 → a + 12 < 290000 ∧ plEnd f (a + 5) + 7 < 290000 ∧ lnAt f a + 1 < 290000) (gB3 : f a = 3 → a + 1 + 5 < 290000) (gB4 : f a = 4 → a + 13 < 290000) (hca9 : ca cc = nI a) (hcc9 : cc < 38000) (hNF : NF < 40000) (hP5 : P ≤ 500) (gE0 : fdf P = nI D0) (gE1 : fdf (P + 1) = nI (D0 + nd)) (hnd : nd ≤ 2048) (hDr : D0 + nd ≤ 8400) (gD : ∀ i, i < nd → dpf (D0 + i) = nI (DP i) ∧ DP i < P) (gC : ∀ i, i ≤ P → fcf i = nI (FC i) ∧ FC i ≤ 38000) (hcc : cc ≤ 38000) (gL : ∀ i, i < P → FC (i + 1) ≤ cc) (gA : ∀ i, i < cc → ca i = nI (CA i) ∧ CA i + 5 < 290000) (gF : ∀ i, i < cc → cff i = nI (CF i) ∧ CF i < 40000) (gI : ∀ i, i < cc → f (CA i) = 2 → plEnd f (CA i + 5) < 290000 ∧ lnAt f (CA i) + 1 < 290000) (gN : ∀ i, i < cc → f (CA i) = 1 → nmAt f (CA i) < 290000) (gCL : ∀ i, i < cc → f (CA i) = 2 → flf i = nI (CL i) ∧ CL i < 200000) : Met l y_In_resolve ws_In_resolve ({ frames := 4, cells := 0, slots := 0, locals := 240 }) (xw_Pc dC dI [(cI, .int), (cB, .byte), (cL, .long), (cZ, .boolean), (cR, .object "PatchStore$Repository")] [.ref h, .int (nI cc), .int (nI a)] [(h, .inr (3, [.ref sk, .ref ch, it_lines, it_sha, it_form, .ref naA, it_linesOfFile, .int (nI NF), .int (nI NL)])), (sk, .inr (9, [.ref b_y, sk_from, .ref fdA, .ref fcA, .ref dpA, sk_hashes, sk_byHash, sk_leansOn, sk_leantBy, .ref ch, sk_lines, .int (nI P)])), (b_y, .inl (cB, 290000, .inl f)), (fdA, .inl (cI, 502, .inl fdf)), (dpA, .inl (cI, 8400, .inl dpf)), (fcA, .inl (cI, 502, .inl fcf)), (naA, .inl (cI, 2048, .inl nf)), (ch, .inr (1, [.ref cat, ch_patch, .ref cfA, .ref flA, ch_adds, ch_files])), (cat, .inl (cI, 38000, .inl ca)), (cfA, .inl (cI, 38000, .inl cff)), (flA, .inl (cI, 38000, .inl flf))] sz) (va_Qi (fun (r : Int32) (u : Nat × (Nat → Int32) × (Nat → Int32) × Nat × Nat) => (rsR f DP FC CA CF CL P nd cc NF a u.1 ∧ r = nI u.1 ∧ u.2.1 = nmX f nd a nf ∧ u.2.2.1 = flX f cc NL a flf ∧ u.2.2.2.1 = NLX f NL a ∧ u.2.2.2.2 = NFX f NF a) ∨ (r = -1 ∧ (∀ q, ¬ rsR f DP FC CA CF CL P nd cc NF a q) ∧ ∀ j, j < cc → u.2.2.1 j = flf j)) (fun u t => xw_B dC dI [(cI, .int), (cB, .byte), (cL, .long), (cZ, .boolean), (cR, .object "PatchStore$Repository")] (va_A [(h, .inr (3, [.ref sk, .ref ch, it_lines, it_sha, it_form, .ref naA, it_linesOfFile, .int (nI NF), .int (nI NL)])), (sk, .inr (9, [.ref b_y, sk_from, .ref fdA, .ref fcA, .ref dpA, sk_hashes, sk_byHash, sk_leansOn, sk_leantBy, .ref ch, sk_lines, .int (nI P)])), (b_y, .inl (cB, 290000, .inl f)), (fdA, .inl (cI, 502, .inl fdf)), (dpA, .inl (cI, 8400, .inl dpf)), (fcA, .inl (cI, 502, .inl fcf)), (naA, .inl (cI, 2048, .inl nf)), (ch, .inr (1, [.ref cat, ch_patch, .ref cfA, .ref flA, ch_adds, ch_files])), (cat, .inl (cI, 38000, .inl ca)), (cfA, .inl (cI, 38000, .inl cff)), (flA, .inl (cI, 38000, .inl flf))] sz) [(h, .inr (3, [.ref sk, .ref ch, it_lines, it_sha, it_form, .ref naA, it_linesOfFile, .int (nI u.2.2.2.2), .int (nI u.2.2.2.1)])), (sk, .inr (9, [.ref b_y, sk_from, .ref fdA, .ref fcA, .ref dpA, sk_hashes, sk_byHash, sk_leansOn, sk_leantBy, .ref ch, sk_lines, .int (nI P)])), (b_y, .inl (cB, 290000, .inl f)), (fdA, .inl (cI, 502, .inl fdf)), (dpA, .inl (cI, 8400, .inl dpf)), (fcA, .inl (cI, 502, .inl fcf)), (naA, .inl (cI, 2048, .inl u.2.1)), (ch, .inr (1, [.ref cat, ch_patch, .ref cfA, .ref flA, ch_adds, ch_files])), (cat, .inl (cI, 38000, .inl ca)), (cfA, .inl (cI, 38000, .inl cff)), (flA, .inl (cI, 38000, .inl u.2.2.1))] t) (va_A [(h, .inr (3, [.ref sk, .ref ch, it_lines, it_sha, it_form, .ref naA, it_linesOfFile, .int (nI NF), .int (nI NL)])), (sk, .inr (9, [.ref b_y, sk_from, .ref fdA, .ref fcA, .ref dpA, sk_hashes, sk_byHash, sk_leansOn, sk_leantBy, .ref ch, sk_lines, .int (nI P)])), (b_y, .inl (cB, 290000, .inl f)), (fdA, .inl (cI, 502, .inl fdf)), (dpA, .inl (cI, 8400, .inl dpf)), (fcA, .inl (cI, 502, .inl fcf)), (naA, .inl (cI, 2048, .inl nf)), (ch, .inr (1, [.ref cat, ch_patch, .ref cfA, .ref flA, ch_adds, ch_files])), (cat, .inl (cI, 38000, .inl ca)), (cfA, .inl (cI, 38000, .inl cff)), (flA, .inl (cI, 38000, .inl flf))] sz)) 0 0 (va_A [(h, .inr (3, [.ref sk, .ref ch, it_lines, it_sha, it_form, .ref naA, it_linesOfFile, .int (nI NF), .int (nI NL)])), (sk, .inr (9, [.ref b_y, sk_from, .ref fdA, .ref fcA, .ref dpA, sk_hashes, sk_byHash, sk_leansOn, sk_leantBy, .ref ch, sk_lines, .int (nI P)])), (b_y, .inl (cB, 290000, .inl f)), (fdA, .inl (cI, 502, .inl fdf)), (dpA, .inl (cI, 8400, .inl dpf)), (fcA, .inl (cI, 502, .inl fcf)), (naA, .inl (cI, 2048, .inl nf)), (ch, .inr (1, [.ref cat, ch_patch, .ref cfA, .ref flA, ch_adds, ch_files])), (cat, .inl (cI, 38000, .inl ca)), (cfA, .inl (cI, 38000, .inl cff)), (flA, .inl (cI, 38000, .inl flf))] sz) := by
  refine Met.ofW (cc := prog_4_method_6_code) (maxL := 3) (ret := (Option.some Jvm.ClassFile.FieldType.int)) (by decide) rfl ?_
  intro p e s m args below meth c s₁ B hml hv
  obtain ⟨rfl, hsz, hP, hK, hD0⟩ := hv
  have hx := B.exec
  have hb := B.bytes
  have hr := B.returns
  have hts0 := atoms_spec (ws := ws_In_resolve) B.pre
  have hts : ∀ w ∈ xg_1, w.before _ s = true := fun w h => hts0 w (List.mem_cons_of_mem _ h)
  have hown : s.vm.findClass "PatchStore$Intake" = some m.cls := findClass_of_methodNamed B.named
  have hlocks := B.notSynchronized
  subst hsz
  have hD := hD0.self (sz := s.heap.size)
  generalize hAe : va_A [(h, .inr (3, [.ref sk, .ref ch, it_lines, it_sha, it_form, .ref naA, it_linesOfFile, .int (nI NF), .int (nI NL)])), (sk, .inr (9, [.ref b_y, sk_from, .ref fdA, .ref fcA, .ref dpA, sk_hashes, sk_byHash, sk_leansOn, sk_leantBy, .ref ch, sk_lines, .int (nI P)])), (b_y, .inl (cB, 290000, .inl f)), (fdA, .inl (cI, 502, .inl fdf)), (dpA, .inl (cI, 8400, .inl dpf)), (fcA, .inl (cI, 502, .inl fcf)), (naA, .inl (cI, 2048, .inl nf)), (ch, .inr (1, [.ref cat, ch_patch, .ref cfA, .ref flA, ch_adds, ch_files])), (cat, .inl (cI, 38000, .inl ca)), (cfA, .inl (cI, 38000, .inl cff)), (flA, .inl (cI, 38000, .inl flf))] s.heap.size = A at hD ⊢
  have hA : ∀ q : Nat, s.heap.size ≤ q → A q := fun q h => by rw [← hAe]; exact Or.inr h
  have hS : va_S A s.heap s.heap [] := va_S.rf
  have hl := lv_entry ([.ref h, .int (nI cc), .int (nI a)]) (n := 3) (Nat.le_of_ble_eq_true rfl)
  rw [lg_entry_eq]
  generalize (lg_sl ([.ref h, .int (nI cc), .int (nI a)]) ++ List.replicate (3 - (lg_sl ([.ref h, .int (nI cc), .int (nI a)])).length) Slot.unset).toArray = ls at hl ⊢
  have hl : lv_has ls 3 [(0, .ref h), (1, .int (nI cc)), (2, .int (nI a))] := hl
  generalize hQe : MQ _ _ _ _ _ _ _ = Q
  refine lv_aload_n hx hb d_In_resolve_0 rfl (lv_at hl 0 rfl) ?_
  refine va_get (D := (dC, dI)) (ci := 3) (v := .ref sk) (C := R_In) (T := F_In) (N := 9) hx hb hts i_In hown hK hP 0 rfl rfl 0 (by decide) (hts _ gw_284) (fun _ h9 => h9) rfl d_In_resolve_1 ?_
  refine va_get (D := (dC, dI)) (ci := 9) (v := .ref b_y) (C := R_St) (T := F_St) (N := 12) hx hb hts i_St hown hK hP 1 rfl rfl 0 (by decide) (hts _ gw_184) (fun _ h9 => h9) rfl d_In_resolve_4 ?_
  refine lv_iload_n hx hb d_In_resolve_7 rfl (lv_at hl 2 rfl) ?_
  refine va_bald hx hb hK hP 2 1 rfl rfl (vp_in_nI (by omega) (by omega)) d_In_resolve_8 ?_
  rw [show (nI a).toNatClampNeg = a from nI_clamp (by omega)]
  rcases pk_ix (f a) (n := 4) (by decide) with hs | hs | ⟨j_9, hj, hje⟩
  · refine lv_tableOut (tgt := 80) hx hb d_In_resolve_9 (Or.inl (by have := Int32.lt_iff_toInt_lt.mp hs; simpa using this)) (by decide) ?_
    obtain ⟨j0, hj5, hj0⟩ := gK
    exact absurd hs (by rw [hj0]; exact nI_pos (by omega))
  · refine lv_tableOut (tgt := 80) hx hb d_In_resolve_9 (Or.inr (by have h9 := Int32.le_iff_toInt_le.mp hs; rw [nI_toInt (by decide)] at h9; omega)) (by decide) ?_
    obtain ⟨j0, hj5, hj0⟩ := gK
    have hf4 : f a = 4 := by
      rw [hj0] at hs ⊢
      have := (nI_leI (a := 4) (by omega) (by omega)).mp hs
      rw [show j0 = 4 by omega]; rfl
    refine lv_aload_n hx hb d_In_resolve_80 rfl (lv_at hl 0 rfl) ?_
    refine lv_iload_n hx hb d_In_resolve_81 rfl (lv_at hl 1 rfl) ?_
    refine lv_iload_n hx hb d_In_resolve_82 rfl (lv_at hl 2 rfl) ?_
    have hPc := hP.sub (ws' := [(h, .inr (3, [.ref sk, .ref ch, it_lines, it_sha, it_form, .ref naA, it_linesOfFile, .int (nI NF), .int (nI NL)])), (sk, .inr (9, [.ref b_y, sk_from, .ref fdA, .ref fcA, .ref dpA, sk_hashes, sk_byHash, sk_leansOn, sk_leantBy, .ref ch, sk_lines, .int (nI P)])), (b_y, .inl (cB, 290000, .inl f)), (fdA, .inl (cI, 502, .inl fdf)), (dpA, .inl (cI, 8400, .inl dpf)), (fcA, .inl (cI, 502, .inl fcf)), (naA, .inl (cI, 2048, .inl nf)), (ch, .inr (1, [.ref cat, ch_patch, .ref cfA, .ref flA, ch_adds, ch_files])), (cat, .inl (cI, 38000, .inl ca)), (cfA, .inl (cI, 38000, .inl cff)), (flA, .inl (cI, 38000, .inl flf))]) [0, 1, 2, 3, 4, 5, 6, 7, 8, 9, 10] rfl
    have hDc := hD.sub (ws' := [(h, .inr (3, [.ref sk, .ref ch, it_lines, it_sha, it_form, .ref naA, it_linesOfFile, .int (nI NF), .int (nI NL)])), (sk, .inr (9, [.ref b_y, sk_from, .ref fdA, .ref fcA, .ref dpA, sk_hashes, sk_byHash, sk_leansOn, sk_leantBy, .ref ch, sk_lines, .int (nI P)])), (b_y, .inl (cB, 290000, .inl f)), (fdA, .inl (cI, 502, .inl fdf)), (dpA, .inl (cI, 8400, .inl dpf)), (fcA, .inl (cI, 502, .inl fcf)), (naA, .inl (cI, 2048, .inl nf)), (ch, .inr (1, [.ref cat, ch_patch, .ref cfA, .ref flA, ch_adds, ch_files])), (cat, .inl (cI, 38000, .inl ca)), (cfA, .inl (cI, 38000, .inl cff)), (flA, .inl (cI, 38000, .inl flf))]) [0, 1, 2, 3, 4, 5, 6, 7, 8, 9, 10] (by decide) rfl
    have hFc := va_free (wc := [(h, .inr (3, [.ref sk, .ref ch, it_lines, it_sha, it_form, .ref naA, it_linesOfFile, .int (nI NF), .int (nI NL)])), (sk, .inr (9, [.ref b_y, sk_from, .ref fdA, .ref fcA, .ref dpA, sk_hashes, sk_byHash, sk_leansOn, sk_leantBy, .ref ch, sk_lines, .int (nI P)])), (b_y, .inl (cB, 290000, .inl f)), (fdA, .inl (cI, 502, .inl fdf)), (dpA, .inl (cI, 8400, .inl dpf)), (fcA, .inl (cI, 502, .inl fcf)), (naA, .inl (cI, 2048, .inl nf)), (ch, .inr (1, [.ref cat, ch_patch, .ref cfA, .ref flA, ch_adds, ch_files])), (cat, .inl (cI, 38000, .inl ca)), (cfA, .inl (cI, 38000, .inl cff)), (flA, .inl (cI, 38000, .inl flf))]) hD hS hA [0, 1, 2, 3, 4, 5, 6, 7, 8, 9, 10] rfl
    refine va_calli (va_runV (As := [.int (nI cc), .int (nI a)]) (rest := []) ⟨hx, hb, hml, hown, hts⟩ (m_In_resolveOrder l dC dI cI cB cL cZ cR h sk b_y fdA dpA fcA naA ch cat cfA flA (it_lines) (it_sha) (it_form) (it_linesOfFile) (.int (nI NF)) (.int (nI NL)) (sk_from) (sk_hashes) (sk_byHash) (sk_leansOn) (sk_leantBy) (sk_lines) (ch_patch) (ch_adds) (ch_files) f fdf dpf fcf nf ca cff flf DP FC CA CF CL P D0 nd cc a s.heap.size (gB4 hf4) hP5 gE0 gE1 hnd hDr gD gC hcc gL gA gF gI gCL) (cwV 2 hts (xg_V gw_923 gw_925 (xg_p 27 (q := (⟨"PatchStore$Intake", "resolveOrder", "(II)I"⟩, 9)) (by decide +kernel)) gw_6 gw_926) rfl rfl rfl (by decide +kernel) ⟨Nat.le_of_ble_eq_true rfl, Nat.le_of_ble_eq_true rfl⟩) ⟨xw_blind, va_recv hK hPc (ci := 3) (q0 := 0) rfl rfl, fun U hU hW => ⟨rfl, by rw [hU], by rw [hU]; exact hPc, va_K.moved hW.alike hK, hDc.weaken (fun _ _ _ _ => trivial)⟩⟩ rfl rfl hl.1 rfl (lv_room (Nat.le_of_ble_eq_true rfl)) d_In_resolve_83 ⟨Nat.le_of_ble_eq_true rfl, Nat.le_of_ble_eq_true rfl⟩) hS (fun q _ h => hFc q h) hFc (fun r9 un t H1 locs ht hvm hw hB hz1 hk1 hS => ?_)
    obtain ⟨yy, un⟩ := un
    dsimp only at hw
    obtain ⟨hP1, hK1, hD1⟩ := hB
    rw [ht] at hP1
    obtain ⟨hP, hD⟩ := va_join (wr := []) (w1 := [(h, .inr (3, [.ref sk, .ref ch, it_lines, it_sha, it_form, .ref naA, it_linesOfFile, .int (nI NF), .int (nI NL)])), (sk, .inr (9, [.ref b_y, sk_from, .ref fdA, .ref fcA, .ref dpA, sk_hashes, sk_byHash, sk_leansOn, sk_leantBy, .ref ch, sk_lines, .int (nI P)])), (b_y, .inl (cB, 290000, .inl f)), (fdA, .inl (cI, 502, .inl fdf)), (dpA, .inl (cI, 8400, .inl dpf)), (fcA, .inl (cI, 502, .inl fcf)), (naA, .inl (cI, 2048, .inl un)), (ch, .inr (1, [.ref cat, ch_patch, .ref cfA, .ref flA, ch_adds, ch_files])), (cat, .inl (cI, 38000, .inl ca)), (cfA, .inl (cI, 38000, .inl cff)), (flA, .inl (cI, 38000, .inl flf))]) hP hD [0, 1, 2, 3, 4, 5, 6, 7, 8, 9, 10] [] rfl rfl (by decide) (by decide) hk1 hFc hP1 hD1
    generalize H1 = H at hP hS ⊢
    have hP : va_P (dC, dI) classes [(h, .inr (3, [.ref sk, .ref ch, it_lines, it_sha, it_form, .ref naA, it_linesOfFile, .int (nI NF), .int (nI NL)])), (sk, .inr (9, [.ref b_y, sk_from, .ref fdA, .ref fcA, .ref dpA, sk_hashes, sk_byHash, sk_leansOn, sk_leantBy, .ref ch, sk_lines, .int (nI P)])), (b_y, .inl (cB, 290000, .inl f)), (fdA, .inl (cI, 502, .inl fdf)), (dpA, .inl (cI, 8400, .inl dpf)), (fcA, .inl (cI, 502, .inl fcf)), (naA, .inl (cI, 2048, .inl un)), (ch, .inr (1, [.ref cat, ch_patch, .ref cfA, .ref flA, ch_adds, ch_files])), (cat, .inl (cI, 38000, .inl ca)), (cfA, .inl (cI, 38000, .inl cff)), (flA, .inl (cI, 38000, .inl flf))] H := hP
    have hD : va_D A [(h, .inr (3, [.ref sk, .ref ch, it_lines, it_sha, it_form, .ref naA, it_linesOfFile, .int (nI NF), .int (nI NL)])), (sk, .inr (9, [.ref b_y, sk_from, .ref fdA, .ref fcA, .ref dpA, sk_hashes, sk_byHash, sk_leansOn, sk_leantBy, .ref ch, sk_lines, .int (nI P)])), (b_y, .inl (cB, 290000, .inl f)), (fdA, .inl (cI, 502, .inl fdf)), (dpA, .inl (cI, 8400, .inl dpf)), (fcA, .inl (cI, 502, .inl fcf)), (naA, .inl (cI, 2048, .inl un)), (ch, .inr (1, [.ref cat, ch_patch, .ref cfA, .ref flA, ch_adds, ch_files])), (cat, .inl (cI, 38000, .inl ca)), (cfA, .inl (cI, 38000, .inl cff)), (flA, .inl (cI, 38000, .inl flf))] := hD
    rcases hw with ⟨hRR, rfl, hun⟩ | ⟨rfl, hRR⟩
    · have hP : va_P (dC, dI) classes [(h, .inr (3, [.ref sk, .ref ch, it_lines, it_sha, it_form, .ref naA, it_linesOfFile, .int (nI NF), .int (nI NL)])), (sk, .inr (9, [.ref b_y, sk_from, .ref fdA, .ref fcA, .ref dpA, sk_hashes, sk_byHash, sk_leansOn, sk_leantBy, .ref ch, sk_lines, .int (nI P)])), (b_y, .inl (cB, 290000, .inl f)), (fdA, .inl (cI, 502, .inl fdf)), (dpA, .inl (cI, 8400, .inl dpf)), (fcA, .inl (cI, 502, .inl fcf)), (naA, .inl (cI, 2048, .inl un)), (ch, .inr (1, [.ref cat, ch_patch, .ref cfA, .ref flA, ch_adds, ch_files])), (cat, .inl (cI, 38000, .inl ca)), (cfA, .inl (cI, 38000, .inl cff)), (flA, .inl (cI, 38000, .inl flf))] H := hP
      have hD : va_D A [(h, .inr (3, [.ref sk, .ref ch, it_lines, it_sha, it_form, .ref naA, it_linesOfFile, .int (nI NF), .int (nI NL)])), (sk, .inr (9, [.ref b_y, sk_from, .ref fdA, .ref fcA, .ref dpA, sk_hashes, sk_byHash, sk_leansOn, sk_leantBy, .ref ch, sk_lines, .int (nI P)])), (b_y, .inl (cB, 290000, .inl f)), (fdA, .inl (cI, 502, .inl fdf)), (dpA, .inl (cI, 8400, .inl dpf)), (fcA, .inl (cI, 502, .inl fcf)), (naA, .inl (cI, 2048, .inl un)), (ch, .inr (1, [.ref cat, ch_patch, .ref cfA, .ref flA, ch_adds, ch_files])), (cat, .inl (cI, 38000, .inl ca)), (cfA, .inl (cI, 38000, .inl cff)), (flA, .inl (cI, 38000, .inl flf))] := hD
      rw [← hQe]
      exact W.iret (v := nI yy) hx hb hr (fun t ht hW => ⟨⟨_, (yy, un, flf, NL, NF), rfl, Or.inl ⟨Or.inr (Or.inr (Or.inr (Or.inr ⟨hf4, hRR⟩))), rfl, hun.trans (by unfold nmX; rw [hf4]; rfl), by unfold flX; rw [hf4]; rfl, by unfold NLX; rw [hf4]; rfl, by unfold NFX; rw [hf4]; rfl⟩, by rw [ht]; exact hP, va_K.moved hW.alike hK, hD⟩, hS.F ht⟩) hS.2.2 d_In_resolve_86
    · have hP : va_P (dC, dI) classes [(h, .inr (3, [.ref sk, .ref ch, it_lines, it_sha, it_form, .ref naA, it_linesOfFile, .int (nI NF), .int (nI NL)])), (sk, .inr (9, [.ref b_y, sk_from, .ref fdA, .ref fcA, .ref dpA, sk_hashes, sk_byHash, sk_leansOn, sk_leantBy, .ref ch, sk_lines, .int (nI P)])), (b_y, .inl (cB, 290000, .inl f)), (fdA, .inl (cI, 502, .inl fdf)), (dpA, .inl (cI, 8400, .inl dpf)), (fcA, .inl (cI, 502, .inl fcf)), (naA, .inl (cI, 2048, .inl un)), (ch, .inr (1, [.ref cat, ch_patch, .ref cfA, .ref flA, ch_adds, ch_files])), (cat, .inl (cI, 38000, .inl ca)), (cfA, .inl (cI, 38000, .inl cff)), (flA, .inl (cI, 38000, .inl flf))] H := hP
      have hD : va_D A [(h, .inr (3, [.ref sk, .ref ch, it_lines, it_sha, it_form, .ref naA, it_linesOfFile, .int (nI NF), .int (nI NL)])), (sk, .inr (9, [.ref b_y, sk_from, .ref fdA, .ref fcA, .ref dpA, sk_hashes, sk_byHash, sk_leansOn, sk_leantBy, .ref ch, sk_lines, .int (nI P)])), (b_y, .inl (cB, 290000, .inl f)), (fdA, .inl (cI, 502, .inl fdf)), (dpA, .inl (cI, 8400, .inl dpf)), (fcA, .inl (cI, 502, .inl fcf)), (naA, .inl (cI, 2048, .inl un)), (ch, .inr (1, [.ref cat, ch_patch, .ref cfA, .ref flA, ch_adds, ch_files])), (cat, .inl (cI, 38000, .inl ca)), (cfA, .inl (cI, 38000, .inl cff)), (flA, .inl (cI, 38000, .inl flf))] := hD
      rw [← hQe]
      exact W.iret (v := (-1)) hx hb hr (fun t ht hW => ⟨⟨_, (0, un, flf, NL, NF), rfl, Or.inr ⟨rfl, fun q z => hRR q (rsR_4 hf4 z), fun _ _ => rfl⟩, by rw [ht]; exact hP, va_K.moved hW.alike hK, hD⟩, hS.F ht⟩) hS.2.2 d_In_resolve_86
  · rcases (show j_9 = 0 ∨ j_9 = 1 ∨ j_9 = 2 ∨ j_9 = 3 by omega) with rfl | rfl | rfl | rfl
    · rw [hje]
      refine lv_tableIn (tgt := 40) (off := 31) hx hb d_In_resolve_9 (by decide) (by decide) (by decide) (by decide) ?_
      refine lv_aload_n hx hb d_In_resolve_40 rfl (lv_at hl 0 rfl) ?_
      refine lv_dup hx hb d_In_resolve_41 rfl ?_
      refine va_get (D := (dC, dI)) (ci := 3) (v := .int (nI NF)) (C := R_In) (T := F_In) (N := 9) hx hb hts i_In hown hK hP 0 rfl rfl 7 (by decide) (hts _ gw_291) (fun _ h9 => h9) rfl d_In_resolve_42 ?_
      refine lv_iconst (v := 1) hx hb d_In_resolve_45 (by decide) ?_
      refine lv_iadd hx hb d_In_resolve_46 ?_
      refine lv_topi (fun x_1 ex_1 => ?_)
      obtain rfl : x_1 = nI (NF + 1) := by rw [ex_1]; first | done | (exact nI_add _ _)
      refine va_put (D := (dC, dI)) (ci := 3) (v := .int (nI (NF + 1))) (ty := .int) (C := R_In) (T := F_In) (N := 9) hx hb hts i_In t_In t_In_ok n_In hown hK hP hD hS 0 rfl rfl 7 (by decide) (hts _ gw_291) (fun _ h9 => h9) rfl (by decide +kernel) rfl rfl (Nat.le_of_ble_eq_true rfl) d_In_resolve_47 (fun H locs hP hD hS => ?_)
      have hP : va_P (dC, dI) classes [(h, .inr (3, [.ref sk, .ref ch, it_lines, it_sha, it_form, .ref naA, it_linesOfFile, .int (nI (NF + 1)), .int (nI NL)])), (sk, .inr (9, [.ref b_y, sk_from, .ref fdA, .ref fcA, .ref dpA, sk_hashes, sk_byHash, sk_leansOn, sk_leantBy, .ref ch, sk_lines, .int (nI P)])), (b_y, .inl (cB, 290000, .inl f)), (fdA, .inl (cI, 502, .inl fdf)), (dpA, .inl (cI, 8400, .inl dpf)), (fcA, .inl (cI, 502, .inl fcf)), (naA, .inl (cI, 2048, .inl nf)), (ch, .inr (1, [.ref cat, ch_patch, .ref cfA, .ref flA, ch_adds, ch_files])), (cat, .inl (cI, 38000, .inl ca)), (cfA, .inl (cI, 38000, .inl cff)), (flA, .inl (cI, 38000, .inl flf))] H := hP
      have hD : va_D A [(h, .inr (3, [.ref sk, .ref ch, it_lines, it_sha, it_form, .ref naA, it_linesOfFile, .int (nI (NF + 1)), .int (nI NL)])), (sk, .inr (9, [.ref b_y, sk_from, .ref fdA, .ref fcA, .ref dpA, sk_hashes, sk_byHash, sk_leansOn, sk_leantBy, .ref ch, sk_lines, .int (nI P)])), (b_y, .inl (cB, 290000, .inl f)), (fdA, .inl (cI, 502, .inl fdf)), (dpA, .inl (cI, 8400, .inl dpf)), (fcA, .inl (cI, 502, .inl fcf)), (naA, .inl (cI, 2048, .inl nf)), (ch, .inr (1, [.ref cat, ch_patch, .ref cfA, .ref flA, ch_adds, ch_files])), (cat, .inl (cI, 38000, .inl ca)), (cfA, .inl (cI, 38000, .inl cff)), (flA, .inl (cI, 38000, .inl flf))] := hD
      refine lv_aload_n hx hb d_In_resolve_50 rfl (lv_at hl 0 rfl) ?_
      refine va_get (D := (dC, dI)) (ci := 3) (v := .int (nI (NF + 1))) (C := R_In) (T := F_In) (N := 9) hx hb hts i_In hown hK hP 0 rfl rfl 7 (by decide) (hts _ gw_291) (fun _ h9 => h9) rfl d_In_resolve_51 ?_
      refine lv_iconst (v := 1) hx hb d_In_resolve_54 (by decide) ?_
      refine lv_isub hx hb d_In_resolve_55 ?_
      refine lv_topi (fun x_2 ex_2 => ?_)
      obtain rfl : x_2 = nI NF := by rw [ex_2]; first | done | (exact nI_subN (a := NF + 1) (b := 1) (by omega))
      rw [← hQe]
      exact W.iret (v := nI NF) hx hb hr (fun t ht hW => ⟨⟨_, (NF, nf, flf, NL, NF + 1), rfl, Or.inl ⟨Or.inl ⟨hje, rfl⟩, rfl, by unfold nmX; rw [hje]; rfl, by unfold flX; rw [hje]; rfl, by unfold NLX; rw [hje]; rfl, by unfold NFX; rw [hje]; rfl⟩, by rw [ht]; exact hP, va_K.moved hW.alike hK, hD⟩, hS.F ht⟩) hS.2.2 d_In_resolve_56
    · rw [hje]
      refine lv_tableIn (tgt := 57) (off := 48) hx hb d_In_resolve_9 (by decide) (by decide) (by decide) (by decide) ?_
      refine lv_aload_n hx hb d_In_resolve_57 rfl (lv_at hl 0 rfl) ?_
      refine lv_iload_n hx hb d_In_resolve_58 rfl (lv_at hl 1 rfl) ?_
      refine lv_iload_n hx hb d_In_resolve_59 rfl (lv_at hl 2 rfl) ?_
      have hPc := hP.sub (ws' := [(h, .inr (3, [.ref sk, .ref ch, it_lines, it_sha, it_form, .ref naA, it_linesOfFile, .int (nI NF), .int (nI NL)])), (sk, .inr (9, [.ref b_y, sk_from, .ref fdA, .ref fcA, .ref dpA, sk_hashes, sk_byHash, sk_leansOn, sk_leantBy, .ref ch, sk_lines, .int (nI P)])), (b_y, .inl (cB, 290000, .inl f)), (fdA, .inl (cI, 502, .inl fdf)), (dpA, .inl (cI, 8400, .inl dpf)), (fcA, .inl (cI, 502, .inl fcf)), (naA, .inl (cI, 2048, .inl nf)), (ch, .inr (1, [.ref cat, ch_patch, .ref cfA, .ref flA, ch_adds, ch_files])), (cat, .inl (cI, 38000, .inl ca)), (cfA, .inl (cI, 38000, .inl cff))]) [0, 1, 2, 3, 4, 5, 6, 7, 8, 9] rfl
      have hDc := hD.sub (ws' := [(h, .inr (3, [.ref sk, .ref ch, it_lines, it_sha, it_form, .ref naA, it_linesOfFile, .int (nI NF), .int (nI NL)])), (sk, .inr (9, [.ref b_y, sk_from, .ref fdA, .ref fcA, .ref dpA, sk_hashes, sk_byHash, sk_leansOn, sk_leantBy, .ref ch, sk_lines, .int (nI P)])), (b_y, .inl (cB, 290000, .inl f)), (fdA, .inl (cI, 502, .inl fdf)), (dpA, .inl (cI, 8400, .inl dpf)), (fcA, .inl (cI, 502, .inl fcf)), (naA, .inl (cI, 2048, .inl nf)), (ch, .inr (1, [.ref cat, ch_patch, .ref cfA, .ref flA, ch_adds, ch_files])), (cat, .inl (cI, 38000, .inl ca)), (cfA, .inl (cI, 38000, .inl cff))]) [0, 1, 2, 3, 4, 5, 6, 7, 8, 9] (by decide) rfl
      have hFc := va_free (wc := [(h, .inr (3, [.ref sk, .ref ch, it_lines, it_sha, it_form, .ref naA, it_linesOfFile, .int (nI NF), .int (nI NL)])), (sk, .inr (9, [.ref b_y, sk_from, .ref fdA, .ref fcA, .ref dpA, sk_hashes, sk_byHash, sk_leansOn, sk_leantBy, .ref ch, sk_lines, .int (nI P)])), (b_y, .inl (cB, 290000, .inl f)), (fdA, .inl (cI, 502, .inl fdf)), (dpA, .inl (cI, 8400, .inl dpf)), (fcA, .inl (cI, 502, .inl fcf)), (naA, .inl (cI, 2048, .inl nf)), (ch, .inr (1, [.ref cat, ch_patch, .ref cfA, .ref flA, ch_adds, ch_files])), (cat, .inl (cI, 38000, .inl ca)), (cfA, .inl (cI, 38000, .inl cff))]) hD hS hA [0, 1, 2, 3, 4, 5, 6, 7, 8, 9] rfl
      refine va_calli (va_runV (As := [.int (nI cc), .int (nI a)]) (rest := []) ⟨hx, hb, hml, hown, hts⟩ (m_In_resolveCall l dC dI cI cB cL cZ cR h sk b_y fdA dpA fcA naA ch cat cfA (it_lines) (it_sha) (it_form) (it_linesOfFile) (.int (nI NF)) (.int (nI NL)) (sk_from) (sk_hashes) (sk_byHash) (sk_leansOn) (sk_leantBy) (sk_lines) (ch_patch) (.ref flA) (ch_adds) (ch_files) f fdf dpf fcf nf ca cff DP FC CA CF P D0 nd cc a s.heap.size (gB1 hje) hP5 gE0 gE1 hnd hDr gD gC hcc gL gA gF gN) (cwV 2 hts (xg_V gw_876 gw_878 (xg_p 21 (q := (⟨"PatchStore$Intake", "resolveCall", "(II)I"⟩, 9)) (by decide +kernel)) gw_6 gw_879) rfl rfl rfl (by decide +kernel) ⟨Nat.le_of_ble_eq_true rfl, Nat.le_of_ble_eq_true rfl⟩) ⟨xw_blind, va_recv hK hPc (ci := 3) (q0 := 0) rfl rfl, fun U hU hW => ⟨rfl, by rw [hU], by rw [hU]; exact hPc, va_K.moved hW.alike hK, hDc.weaken (fun _ _ _ _ => trivial)⟩⟩ rfl rfl hl.1 rfl (lv_room (Nat.le_of_ble_eq_true rfl)) d_In_resolve_60 ⟨Nat.le_of_ble_eq_true rfl, Nat.le_of_ble_eq_true rfl⟩) hS (fun q _ h => hFc q h) hFc (fun r9 un t H1 locs ht hvm hw hB hz1 hk1 hS => ?_)
      obtain ⟨yy, un⟩ := un
      dsimp only at hw
      obtain ⟨hP1, hK1, hD1⟩ := hB
      rw [ht] at hP1
      obtain ⟨hP, hD⟩ := va_join (wr := [(flA, .inl (cI, 38000, .inl flf))]) (w1 := [(h, .inr (3, [.ref sk, .ref ch, it_lines, it_sha, it_form, .ref naA, it_linesOfFile, .int (nI NF), .int (nI NL)])), (sk, .inr (9, [.ref b_y, sk_from, .ref fdA, .ref fcA, .ref dpA, sk_hashes, sk_byHash, sk_leansOn, sk_leantBy, .ref ch, sk_lines, .int (nI P)])), (b_y, .inl (cB, 290000, .inl f)), (fdA, .inl (cI, 502, .inl fdf)), (dpA, .inl (cI, 8400, .inl dpf)), (fcA, .inl (cI, 502, .inl fcf)), (naA, .inl (cI, 2048, .inl un)), (ch, .inr (1, [.ref cat, ch_patch, .ref cfA, .ref flA, ch_adds, ch_files])), (cat, .inl (cI, 38000, .inl ca)), (cfA, .inl (cI, 38000, .inl cff))]) hP hD [0, 1, 2, 3, 4, 5, 6, 7, 8, 9] [10] rfl rfl (by decide) (by decide) hk1 hFc hP1 hD1
      generalize H1 = H at hP hS ⊢
      have hP : va_P (dC, dI) classes [(flA, .inl (cI, 38000, .inl flf)), (h, .inr (3, [.ref sk, .ref ch, it_lines, it_sha, it_form, .ref naA, it_linesOfFile, .int (nI NF), .int (nI NL)])), (sk, .inr (9, [.ref b_y, sk_from, .ref fdA, .ref fcA, .ref dpA, sk_hashes, sk_byHash, sk_leansOn, sk_leantBy, .ref ch, sk_lines, .int (nI P)])), (b_y, .inl (cB, 290000, .inl f)), (fdA, .inl (cI, 502, .inl fdf)), (dpA, .inl (cI, 8400, .inl dpf)), (fcA, .inl (cI, 502, .inl fcf)), (naA, .inl (cI, 2048, .inl un)), (ch, .inr (1, [.ref cat, ch_patch, .ref cfA, .ref flA, ch_adds, ch_files])), (cat, .inl (cI, 38000, .inl ca)), (cfA, .inl (cI, 38000, .inl cff))] H := hP
      have hD : va_D A [(flA, .inl (cI, 38000, .inl flf)), (h, .inr (3, [.ref sk, .ref ch, it_lines, it_sha, it_form, .ref naA, it_linesOfFile, .int (nI NF), .int (nI NL)])), (sk, .inr (9, [.ref b_y, sk_from, .ref fdA, .ref fcA, .ref dpA, sk_hashes, sk_byHash, sk_leansOn, sk_leantBy, .ref ch, sk_lines, .int (nI P)])), (b_y, .inl (cB, 290000, .inl f)), (fdA, .inl (cI, 502, .inl fdf)), (dpA, .inl (cI, 8400, .inl dpf)), (fcA, .inl (cI, 502, .inl fcf)), (naA, .inl (cI, 2048, .inl un)), (ch, .inr (1, [.ref cat, ch_patch, .ref cfA, .ref flA, ch_adds, ch_files])), (cat, .inl (cI, 38000, .inl ca)), (cfA, .inl (cI, 38000, .inl cff))] := hD
      rcases hw with ⟨hRR, rfl, hun⟩ | ⟨rfl, hRR⟩
      · have hP : va_P (dC, dI) classes [(flA, .inl (cI, 38000, .inl flf)), (h, .inr (3, [.ref sk, .ref ch, it_lines, it_sha, it_form, .ref naA, it_linesOfFile, .int (nI NF), .int (nI NL)])), (sk, .inr (9, [.ref b_y, sk_from, .ref fdA, .ref fcA, .ref dpA, sk_hashes, sk_byHash, sk_leansOn, sk_leantBy, .ref ch, sk_lines, .int (nI P)])), (b_y, .inl (cB, 290000, .inl f)), (fdA, .inl (cI, 502, .inl fdf)), (dpA, .inl (cI, 8400, .inl dpf)), (fcA, .inl (cI, 502, .inl fcf)), (naA, .inl (cI, 2048, .inl un)), (ch, .inr (1, [.ref cat, ch_patch, .ref cfA, .ref flA, ch_adds, ch_files])), (cat, .inl (cI, 38000, .inl ca)), (cfA, .inl (cI, 38000, .inl cff))] H := hP
        have hD : va_D A [(flA, .inl (cI, 38000, .inl flf)), (h, .inr (3, [.ref sk, .ref ch, it_lines, it_sha, it_form, .ref naA, it_linesOfFile, .int (nI NF), .int (nI NL)])), (sk, .inr (9, [.ref b_y, sk_from, .ref fdA, .ref fcA, .ref dpA, sk_hashes, sk_byHash, sk_leansOn, sk_leantBy, .ref ch, sk_lines, .int (nI P)])), (b_y, .inl (cB, 290000, .inl f)), (fdA, .inl (cI, 502, .inl fdf)), (dpA, .inl (cI, 8400, .inl dpf)), (fcA, .inl (cI, 502, .inl fcf)), (naA, .inl (cI, 2048, .inl un)), (ch, .inr (1, [.ref cat, ch_patch, .ref cfA, .ref flA, ch_adds, ch_files])), (cat, .inl (cI, 38000, .inl ca)), (cfA, .inl (cI, 38000, .inl cff))] := hD
        have hP := hP.sub (ws' := [(h, .inr (3, [.ref sk, .ref ch, it_lines, it_sha, it_form, .ref naA, it_linesOfFile, .int (nI NF), .int (nI NL)])), (sk, .inr (9, [.ref b_y, sk_from, .ref fdA, .ref fcA, .ref dpA, sk_hashes, sk_byHash, sk_leansOn, sk_leantBy, .ref ch, sk_lines, .int (nI P)])), (b_y, .inl (cB, 290000, .inl f)), (fdA, .inl (cI, 502, .inl fdf)), (dpA, .inl (cI, 8400, .inl dpf)), (fcA, .inl (cI, 502, .inl fcf)), (naA, .inl (cI, 2048, .inl un)), (ch, .inr (1, [.ref cat, ch_patch, .ref cfA, .ref flA, ch_adds, ch_files])), (cat, .inl (cI, 38000, .inl ca)), (cfA, .inl (cI, 38000, .inl cff)), (flA, .inl (cI, 38000, .inl flf))]) [1, 2, 3, 4, 5, 6, 7, 8, 9, 10, 0] rfl
        have hD := hD.sub (ws' := [(h, .inr (3, [.ref sk, .ref ch, it_lines, it_sha, it_form, .ref naA, it_linesOfFile, .int (nI NF), .int (nI NL)])), (sk, .inr (9, [.ref b_y, sk_from, .ref fdA, .ref fcA, .ref dpA, sk_hashes, sk_byHash, sk_leansOn, sk_leantBy, .ref ch, sk_lines, .int (nI P)])), (b_y, .inl (cB, 290000, .inl f)), (fdA, .inl (cI, 502, .inl fdf)), (dpA, .inl (cI, 8400, .inl dpf)), (fcA, .inl (cI, 502, .inl fcf)), (naA, .inl (cI, 2048, .inl un)), (ch, .inr (1, [.ref cat, ch_patch, .ref cfA, .ref flA, ch_adds, ch_files])), (cat, .inl (cI, 38000, .inl ca)), (cfA, .inl (cI, 38000, .inl cff)), (flA, .inl (cI, 38000, .inl flf))]) [1, 2, 3, 4, 5, 6, 7, 8, 9, 10, 0] (by decide) rfl
        rw [← hQe]
        exact W.iret (v := nI yy) hx hb hr (fun t ht hW => ⟨⟨_, (yy, un, flf, NL, NF), rfl, Or.inl ⟨Or.inr (Or.inl ⟨hje, hRR⟩), rfl, hun.trans (by unfold nmX; rw [hje]; rfl), by unfold flX; rw [hje]; rfl, by unfold NLX; rw [hje]; rfl, by unfold NFX; rw [hje]; rfl⟩, by rw [ht]; exact hP, va_K.moved hW.alike hK, hD⟩, hS.F ht⟩) hS.2.2 d_In_resolve_63
      · have hP : va_P (dC, dI) classes [(flA, .inl (cI, 38000, .inl flf)), (h, .inr (3, [.ref sk, .ref ch, it_lines, it_sha, it_form, .ref naA, it_linesOfFile, .int (nI NF), .int (nI NL)])), (sk, .inr (9, [.ref b_y, sk_from, .ref fdA, .ref fcA, .ref dpA, sk_hashes, sk_byHash, sk_leansOn, sk_leantBy, .ref ch, sk_lines, .int (nI P)])), (b_y, .inl (cB, 290000, .inl f)), (fdA, .inl (cI, 502, .inl fdf)), (dpA, .inl (cI, 8400, .inl dpf)), (fcA, .inl (cI, 502, .inl fcf)), (naA, .inl (cI, 2048, .inl un)), (ch, .inr (1, [.ref cat, ch_patch, .ref cfA, .ref flA, ch_adds, ch_files])), (cat, .inl (cI, 38000, .inl ca)), (cfA, .inl (cI, 38000, .inl cff))] H := hP
        have hD : va_D A [(flA, .inl (cI, 38000, .inl flf)), (h, .inr (3, [.ref sk, .ref ch, it_lines, it_sha, it_form, .ref naA, it_linesOfFile, .int (nI NF), .int (nI NL)])), (sk, .inr (9, [.ref b_y, sk_from, .ref fdA, .ref fcA, .ref dpA, sk_hashes, sk_byHash, sk_leansOn, sk_leantBy, .ref ch, sk_lines, .int (nI P)])), (b_y, .inl (cB, 290000, .inl f)), (fdA, .inl (cI, 502, .inl fdf)), (dpA, .inl (cI, 8400, .inl dpf)), (fcA, .inl (cI, 502, .inl fcf)), (naA, .inl (cI, 2048, .inl un)), (ch, .inr (1, [.ref cat, ch_patch, .ref cfA, .ref flA, ch_adds, ch_files])), (cat, .inl (cI, 38000, .inl ca)), (cfA, .inl (cI, 38000, .inl cff))] := hD
        have hP := hP.sub (ws' := [(h, .inr (3, [.ref sk, .ref ch, it_lines, it_sha, it_form, .ref naA, it_linesOfFile, .int (nI NF), .int (nI NL)])), (sk, .inr (9, [.ref b_y, sk_from, .ref fdA, .ref fcA, .ref dpA, sk_hashes, sk_byHash, sk_leansOn, sk_leantBy, .ref ch, sk_lines, .int (nI P)])), (b_y, .inl (cB, 290000, .inl f)), (fdA, .inl (cI, 502, .inl fdf)), (dpA, .inl (cI, 8400, .inl dpf)), (fcA, .inl (cI, 502, .inl fcf)), (naA, .inl (cI, 2048, .inl un)), (ch, .inr (1, [.ref cat, ch_patch, .ref cfA, .ref flA, ch_adds, ch_files])), (cat, .inl (cI, 38000, .inl ca)), (cfA, .inl (cI, 38000, .inl cff)), (flA, .inl (cI, 38000, .inl flf))]) [1, 2, 3, 4, 5, 6, 7, 8, 9, 10, 0] rfl
        have hD := hD.sub (ws' := [(h, .inr (3, [.ref sk, .ref ch, it_lines, it_sha, it_form, .ref naA, it_linesOfFile, .int (nI NF), .int (nI NL)])), (sk, .inr (9, [.ref b_y, sk_from, .ref fdA, .ref fcA, .ref dpA, sk_hashes, sk_byHash, sk_leansOn, sk_leantBy, .ref ch, sk_lines, .int (nI P)])), (b_y, .inl (cB, 290000, .inl f)), (fdA, .inl (cI, 502, .inl fdf)), (dpA, .inl (cI, 8400, .inl dpf)), (fcA, .inl (cI, 502, .inl fcf)), (naA, .inl (cI, 2048, .inl un)), (ch, .inr (1, [.ref cat, ch_patch, .ref cfA, .ref flA, ch_adds, ch_files])), (cat, .inl (cI, 38000, .inl ca)), (cfA, .inl (cI, 38000, .inl cff)), (flA, .inl (cI, 38000, .inl flf))]) [1, 2, 3, 4, 5, 6, 7, 8, 9, 10, 0] (by decide) rfl
        rw [← hQe]
        exact W.iret (v := (-1)) hx hb hr (fun t ht hW => ⟨⟨_, (0, un, flf, NL, NF), rfl, Or.inr ⟨rfl, fun q z => hRR q (rsR_1 hje z), fun _ _ => rfl⟩, by rw [ht]; exact hP, va_K.moved hW.alike hK, hD⟩, hS.F ht⟩) hS.2.2 d_In_resolve_63
    · rw [hje]
      refine lv_tableIn (tgt := 64) (off := 55) hx hb d_In_resolve_9 (by decide) (by decide) (by decide) (by decide) ?_
      refine lv_aload_n hx hb d_In_resolve_64 rfl (lv_at hl 0 rfl) ?_
      refine lv_iload_n hx hb d_In_resolve_65 rfl (lv_at hl 1 rfl) ?_
      refine lv_iload_n hx hb d_In_resolve_66 rfl (lv_at hl 2 rfl) ?_
      have hPc := hP.sub (ws' := [(h, .inr (3, [.ref sk, .ref ch, it_lines, it_sha, it_form, .ref naA, it_linesOfFile, .int (nI NF), .int (nI NL)])), (sk, .inr (9, [.ref b_y, sk_from, .ref fdA, .ref fcA, .ref dpA, sk_hashes, sk_byHash, sk_leansOn, sk_leantBy, .ref ch, sk_lines, .int (nI P)])), (b_y, .inl (cB, 290000, .inl f)), (fdA, .inl (cI, 502, .inl fdf)), (dpA, .inl (cI, 8400, .inl dpf)), (fcA, .inl (cI, 502, .inl fcf)), (naA, .inl (cI, 2048, .inl nf)), (ch, .inr (1, [.ref cat, ch_patch, .ref cfA, .ref flA, ch_adds, ch_files])), (cat, .inl (cI, 38000, .inl ca)), (cfA, .inl (cI, 38000, .inl cff)), (flA, .inl (cI, 38000, .inl flf))]) [0, 1, 2, 3, 4, 5, 6, 7, 8, 9, 10] rfl
      have hDc := hD.sub (ws' := [(h, .inr (3, [.ref sk, .ref ch, it_lines, it_sha, it_form, .ref naA, it_linesOfFile, .int (nI NF), .int (nI NL)])), (sk, .inr (9, [.ref b_y, sk_from, .ref fdA, .ref fcA, .ref dpA, sk_hashes, sk_byHash, sk_leansOn, sk_leantBy, .ref ch, sk_lines, .int (nI P)])), (b_y, .inl (cB, 290000, .inl f)), (fdA, .inl (cI, 502, .inl fdf)), (dpA, .inl (cI, 8400, .inl dpf)), (fcA, .inl (cI, 502, .inl fcf)), (naA, .inl (cI, 2048, .inl nf)), (ch, .inr (1, [.ref cat, ch_patch, .ref cfA, .ref flA, ch_adds, ch_files])), (cat, .inl (cI, 38000, .inl ca)), (cfA, .inl (cI, 38000, .inl cff)), (flA, .inl (cI, 38000, .inl flf))]) [0, 1, 2, 3, 4, 5, 6, 7, 8, 9, 10] (by decide) rfl
      have hFc := va_free (wc := [(h, .inr (3, [.ref sk, .ref ch, it_lines, it_sha, it_form, .ref naA, it_linesOfFile, .int (nI NF), .int (nI NL)])), (sk, .inr (9, [.ref b_y, sk_from, .ref fdA, .ref fcA, .ref dpA, sk_hashes, sk_byHash, sk_leansOn, sk_leantBy, .ref ch, sk_lines, .int (nI P)])), (b_y, .inl (cB, 290000, .inl f)), (fdA, .inl (cI, 502, .inl fdf)), (dpA, .inl (cI, 8400, .inl dpf)), (fcA, .inl (cI, 502, .inl fcf)), (naA, .inl (cI, 2048, .inl nf)), (ch, .inr (1, [.ref cat, ch_patch, .ref cfA, .ref flA, ch_adds, ch_files])), (cat, .inl (cI, 38000, .inl ca)), (cfA, .inl (cI, 38000, .inl cff)), (flA, .inl (cI, 38000, .inl flf))]) hD hS hA [0, 1, 2, 3, 4, 5, 6, 7, 8, 9, 10] rfl
      refine va_calli (va_runV (As := [.int (nI cc), .int (nI a)]) (rest := []) ⟨hx, hb, hml, hown, hts⟩ (m_In_resolveInsert l dC dI cI cB cL cZ cR h sk b_y fdA dpA fcA naA ch cat cfA flA (it_lines) (it_sha) (it_form) (it_linesOfFile) (.int (nI NF)) (sk_from) (sk_hashes) (sk_byHash) (sk_leansOn) (sk_leantBy) (sk_lines) (ch_patch) (ch_adds) (ch_files) f fdf dpf fcf nf ca cff flf DP FC CA CF P D0 nd cc a NL s.heap.size (gB2 hje).1 (gB2 hje).2.1 (gB2 hje).2.2 hca9 hcc9 hP5 gE0 gE1 hnd hDr gD gC hcc gL gA gF gI) (cwV 2 hts (xg_V gw_906 gw_908 (xg_p 25 (q := (⟨"PatchStore$Intake", "resolveInsert", "(II)I"⟩, 9)) (by decide +kernel)) gw_6 gw_909) rfl rfl rfl (by decide +kernel) ⟨Nat.le_of_ble_eq_true rfl, Nat.le_of_ble_eq_true rfl⟩) ⟨xw_blind, va_recv hK hPc (ci := 3) (q0 := 0) rfl rfl, fun U hU hW => ⟨rfl, by rw [hU], by rw [hU]; exact hPc, va_K.moved hW.alike hK, hDc.weaken (fun _ _ _ _ => trivial)⟩⟩ rfl rfl hl.1 rfl (lv_room (Nat.le_of_ble_eq_true rfl)) d_In_resolve_67 ⟨Nat.le_of_ble_eq_true rfl, Nat.le_of_ble_eq_true rfl⟩) hS (fun q _ h => hFc q h) hFc (fun r9 un t H1 locs ht hvm hw hB hz1 hk1 hS => ?_)
      obtain ⟨yy, un, uf, ul⟩ := un
      dsimp only at hw
      obtain ⟨hP1, hK1, hD1⟩ := hB
      rw [ht] at hP1
      obtain ⟨hP, hD⟩ := va_join (wr := []) (w1 := [(h, .inr (3, [.ref sk, .ref ch, it_lines, it_sha, it_form, .ref naA, it_linesOfFile, .int (nI NF), .int (nI ul)])), (sk, .inr (9, [.ref b_y, sk_from, .ref fdA, .ref fcA, .ref dpA, sk_hashes, sk_byHash, sk_leansOn, sk_leantBy, .ref ch, sk_lines, .int (nI P)])), (b_y, .inl (cB, 290000, .inl f)), (fdA, .inl (cI, 502, .inl fdf)), (dpA, .inl (cI, 8400, .inl dpf)), (fcA, .inl (cI, 502, .inl fcf)), (naA, .inl (cI, 2048, .inl un)), (ch, .inr (1, [.ref cat, ch_patch, .ref cfA, .ref flA, ch_adds, ch_files])), (cat, .inl (cI, 38000, .inl ca)), (cfA, .inl (cI, 38000, .inl cff)), (flA, .inl (cI, 38000, .inl uf))]) hP hD [0, 1, 2, 3, 4, 5, 6, 7, 8, 9, 10] [] rfl rfl (by decide) (by decide) hk1 hFc hP1 hD1
      generalize H1 = H at hP hS ⊢
      have hP : va_P (dC, dI) classes [(h, .inr (3, [.ref sk, .ref ch, it_lines, it_sha, it_form, .ref naA, it_linesOfFile, .int (nI NF), .int (nI ul)])), (sk, .inr (9, [.ref b_y, sk_from, .ref fdA, .ref fcA, .ref dpA, sk_hashes, sk_byHash, sk_leansOn, sk_leantBy, .ref ch, sk_lines, .int (nI P)])), (b_y, .inl (cB, 290000, .inl f)), (fdA, .inl (cI, 502, .inl fdf)), (dpA, .inl (cI, 8400, .inl dpf)), (fcA, .inl (cI, 502, .inl fcf)), (naA, .inl (cI, 2048, .inl un)), (ch, .inr (1, [.ref cat, ch_patch, .ref cfA, .ref flA, ch_adds, ch_files])), (cat, .inl (cI, 38000, .inl ca)), (cfA, .inl (cI, 38000, .inl cff)), (flA, .inl (cI, 38000, .inl uf))] H := hP
      have hD : va_D A [(h, .inr (3, [.ref sk, .ref ch, it_lines, it_sha, it_form, .ref naA, it_linesOfFile, .int (nI NF), .int (nI ul)])), (sk, .inr (9, [.ref b_y, sk_from, .ref fdA, .ref fcA, .ref dpA, sk_hashes, sk_byHash, sk_leansOn, sk_leantBy, .ref ch, sk_lines, .int (nI P)])), (b_y, .inl (cB, 290000, .inl f)), (fdA, .inl (cI, 502, .inl fdf)), (dpA, .inl (cI, 8400, .inl dpf)), (fcA, .inl (cI, 502, .inl fcf)), (naA, .inl (cI, 2048, .inl un)), (ch, .inr (1, [.ref cat, ch_patch, .ref cfA, .ref flA, ch_adds, ch_files])), (cat, .inl (cI, 38000, .inl ca)), (cfA, .inl (cI, 38000, .inl cff)), (flA, .inl (cI, 38000, .inl uf))] := hD
      rcases hw with ⟨hRR, rfl, hun, huf, hul⟩ | ⟨rfl, hRR, huf, hul⟩
      · have hP : va_P (dC, dI) classes [(h, .inr (3, [.ref sk, .ref ch, it_lines, it_sha, it_form, .ref naA, it_linesOfFile, .int (nI NF), .int (nI ul)])), (sk, .inr (9, [.ref b_y, sk_from, .ref fdA, .ref fcA, .ref dpA, sk_hashes, sk_byHash, sk_leansOn, sk_leantBy, .ref ch, sk_lines, .int (nI P)])), (b_y, .inl (cB, 290000, .inl f)), (fdA, .inl (cI, 502, .inl fdf)), (dpA, .inl (cI, 8400, .inl dpf)), (fcA, .inl (cI, 502, .inl fcf)), (naA, .inl (cI, 2048, .inl un)), (ch, .inr (1, [.ref cat, ch_patch, .ref cfA, .ref flA, ch_adds, ch_files])), (cat, .inl (cI, 38000, .inl ca)), (cfA, .inl (cI, 38000, .inl cff)), (flA, .inl (cI, 38000, .inl uf))] H := hP
        have hD : va_D A [(h, .inr (3, [.ref sk, .ref ch, it_lines, it_sha, it_form, .ref naA, it_linesOfFile, .int (nI NF), .int (nI ul)])), (sk, .inr (9, [.ref b_y, sk_from, .ref fdA, .ref fcA, .ref dpA, sk_hashes, sk_byHash, sk_leansOn, sk_leantBy, .ref ch, sk_lines, .int (nI P)])), (b_y, .inl (cB, 290000, .inl f)), (fdA, .inl (cI, 502, .inl fdf)), (dpA, .inl (cI, 8400, .inl dpf)), (fcA, .inl (cI, 502, .inl fcf)), (naA, .inl (cI, 2048, .inl un)), (ch, .inr (1, [.ref cat, ch_patch, .ref cfA, .ref flA, ch_adds, ch_files])), (cat, .inl (cI, 38000, .inl ca)), (cfA, .inl (cI, 38000, .inl cff)), (flA, .inl (cI, 38000, .inl uf))] := hD
        rw [← hQe]
        exact W.iret (v := nI yy) hx hb hr (fun t ht hW => ⟨⟨_, (yy, un, uf, ul, NF), rfl, Or.inl ⟨Or.inr (Or.inr (Or.inl ⟨hje, hRR⟩)), rfl, hun.trans (by unfold nmX; rw [hje]; rfl), huf.trans (by unfold flX; rw [hje]; rfl), hul.trans (by unfold NLX; rw [hje]; rfl), by unfold NFX; rw [hje]; rfl⟩, by rw [ht]; exact hP, va_K.moved hW.alike hK, hD⟩, hS.F ht⟩) hS.2.2 d_In_resolve_70
      · have hP : va_P (dC, dI) classes [(h, .inr (3, [.ref sk, .ref ch, it_lines, it_sha, it_form, .ref naA, it_linesOfFile, .int (nI NF), .int (nI ul)])), (sk, .inr (9, [.ref b_y, sk_from, .ref fdA, .ref fcA, .ref dpA, sk_hashes, sk_byHash, sk_leansOn, sk_leantBy, .ref ch, sk_lines, .int (nI P)])), (b_y, .inl (cB, 290000, .inl f)), (fdA, .inl (cI, 502, .inl fdf)), (dpA, .inl (cI, 8400, .inl dpf)), (fcA, .inl (cI, 502, .inl fcf)), (naA, .inl (cI, 2048, .inl un)), (ch, .inr (1, [.ref cat, ch_patch, .ref cfA, .ref flA, ch_adds, ch_files])), (cat, .inl (cI, 38000, .inl ca)), (cfA, .inl (cI, 38000, .inl cff)), (flA, .inl (cI, 38000, .inl uf))] H := hP
        have hD : va_D A [(h, .inr (3, [.ref sk, .ref ch, it_lines, it_sha, it_form, .ref naA, it_linesOfFile, .int (nI NF), .int (nI ul)])), (sk, .inr (9, [.ref b_y, sk_from, .ref fdA, .ref fcA, .ref dpA, sk_hashes, sk_byHash, sk_leansOn, sk_leantBy, .ref ch, sk_lines, .int (nI P)])), (b_y, .inl (cB, 290000, .inl f)), (fdA, .inl (cI, 502, .inl fdf)), (dpA, .inl (cI, 8400, .inl dpf)), (fcA, .inl (cI, 502, .inl fcf)), (naA, .inl (cI, 2048, .inl un)), (ch, .inr (1, [.ref cat, ch_patch, .ref cfA, .ref flA, ch_adds, ch_files])), (cat, .inl (cI, 38000, .inl ca)), (cfA, .inl (cI, 38000, .inl cff)), (flA, .inl (cI, 38000, .inl uf))] := hD
        rw [← hQe]
        exact W.iret (v := (-1)) hx hb hr (fun t ht hW => ⟨⟨_, (0, un, uf, ul, NF), rfl, Or.inr ⟨rfl, fun q z => hRR q (rsR_2 hje z), fun j z => by rw [huf]⟩, by rw [ht]; exact hP, va_K.moved hW.alike hK, hD⟩, hS.F ht⟩) hS.2.2 d_In_resolve_70
    · rw [hje]
      refine lv_tableIn (tgt := 71) (off := 62) hx hb d_In_resolve_9 (by decide) (by decide) (by decide) (by decide) ?_
      refine lv_aload_n hx hb d_In_resolve_71 rfl (lv_at hl 0 rfl) ?_
      refine lv_iload_n hx hb d_In_resolve_72 rfl (lv_at hl 1 rfl) ?_
      refine lv_iload_n hx hb d_In_resolve_73 rfl (lv_at hl 2 rfl) ?_
      refine lv_iconst (v := 1) hx hb d_In_resolve_74 (by decide) ?_
      refine lv_iadd hx hb d_In_resolve_75 ?_
      refine lv_topi (fun x_3 ex_3 => ?_)
      obtain rfl : x_3 = nI (a + 1) := by rw [ex_3]; first | done | (exact nI_add _ _)
      have hb3 := gB3 hje
      have hPc := hP.sub (ws' := [(h, .inr (3, [.ref sk, .ref ch, it_lines, it_sha, it_form, .ref naA, it_linesOfFile, .int (nI NF), .int (nI NL)])), (sk, .inr (9, [.ref b_y, sk_from, .ref fdA, .ref fcA, .ref dpA, sk_hashes, sk_byHash, sk_leansOn, sk_leantBy, .ref ch, sk_lines, .int (nI P)])), (b_y, .inl (cB, 290000, .inl f)), (fdA, .inl (cI, 502, .inl fdf)), (dpA, .inl (cI, 8400, .inl dpf)), (fcA, .inl (cI, 502, .inl fcf)), (naA, .inl (cI, 2048, .inl nf)), (ch, .inr (1, [.ref cat, ch_patch, .ref cfA, .ref flA, ch_adds, ch_files])), (cat, .inl (cI, 38000, .inl ca)), (cfA, .inl (cI, 38000, .inl cff))]) [0, 1, 2, 3, 4, 5, 6, 7, 8, 9] rfl
      have hDc := hD.sub (ws' := [(h, .inr (3, [.ref sk, .ref ch, it_lines, it_sha, it_form, .ref naA, it_linesOfFile, .int (nI NF), .int (nI NL)])), (sk, .inr (9, [.ref b_y, sk_from, .ref fdA, .ref fcA, .ref dpA, sk_hashes, sk_byHash, sk_leansOn, sk_leantBy, .ref ch, sk_lines, .int (nI P)])), (b_y, .inl (cB, 290000, .inl f)), (fdA, .inl (cI, 502, .inl fdf)), (dpA, .inl (cI, 8400, .inl dpf)), (fcA, .inl (cI, 502, .inl fcf)), (naA, .inl (cI, 2048, .inl nf)), (ch, .inr (1, [.ref cat, ch_patch, .ref cfA, .ref flA, ch_adds, ch_files])), (cat, .inl (cI, 38000, .inl ca)), (cfA, .inl (cI, 38000, .inl cff))]) [0, 1, 2, 3, 4, 5, 6, 7, 8, 9] (by decide) rfl
      have hFc := va_free (wc := [(h, .inr (3, [.ref sk, .ref ch, it_lines, it_sha, it_form, .ref naA, it_linesOfFile, .int (nI NF), .int (nI NL)])), (sk, .inr (9, [.ref b_y, sk_from, .ref fdA, .ref fcA, .ref dpA, sk_hashes, sk_byHash, sk_leansOn, sk_leantBy, .ref ch, sk_lines, .int (nI P)])), (b_y, .inl (cB, 290000, .inl f)), (fdA, .inl (cI, 502, .inl fdf)), (dpA, .inl (cI, 8400, .inl dpf)), (fcA, .inl (cI, 502, .inl fcf)), (naA, .inl (cI, 2048, .inl nf)), (ch, .inr (1, [.ref cat, ch_patch, .ref cfA, .ref flA, ch_adds, ch_files])), (cat, .inl (cI, 38000, .inl ca)), (cfA, .inl (cI, 38000, .inl cff))]) hD hS hA [0, 1, 2, 3, 4, 5, 6, 7, 8, 9] rfl
      refine va_calli (va_runV (As := [.int (nI cc), .int (nI (a + 1))]) (rest := []) ⟨hx, hb, hml, hown, hts⟩ (m_In_fileOfLine l dC dI cI cB cL cZ cR h sk b_y fdA dpA fcA naA ch cat cfA (it_lines) (it_sha) (it_form) (it_linesOfFile) (.int (nI NF)) (.int (nI NL)) (sk_from) (sk_hashes) (sk_byHash) (sk_leansOn) (sk_leantBy) (sk_lines) (ch_patch) (.ref flA) (ch_adds) (ch_files) f fdf dpf fcf nf ca cff DP FC CA CF P D0 nd cc (a + 1) s.heap.size (by omega) hP5 gE0 gE1 hnd hDr gD gC hcc gL gA gF gI) (cwV 2 hts (xg_V gw_914 gw_916 (xg_p 26 (q := (⟨"PatchStore$Intake", "fileOfLine", "(II)I"⟩, 9)) (by decide +kernel)) gw_6 gw_917) rfl rfl rfl (by decide +kernel) ⟨Nat.le_of_ble_eq_true rfl, Nat.le_of_ble_eq_true rfl⟩) ⟨xw_blind, va_recv hK hPc (ci := 3) (q0 := 0) rfl rfl, fun U hU hW => ⟨rfl, by rw [hU], by rw [hU]; exact hPc, va_K.moved hW.alike hK, hDc.weaken (fun _ _ _ _ => trivial)⟩⟩ rfl rfl hl.1 rfl (lv_room (Nat.le_of_ble_eq_true rfl)) d_In_resolve_76 ⟨Nat.le_of_ble_eq_true rfl, Nat.le_of_ble_eq_true rfl⟩) hS (fun q _ h => hFc q h) hFc (fun r9 un t H1 locs ht hvm hw hB hz1 hk1 hS => ?_)
      obtain ⟨yy, un⟩ := un
      dsimp only at hw
      obtain ⟨hP1, hK1, hD1⟩ := hB
      rw [ht] at hP1
      obtain ⟨hP, hD⟩ := va_join (wr := [(flA, .inl (cI, 38000, .inl flf))]) (w1 := [(h, .inr (3, [.ref sk, .ref ch, it_lines, it_sha, it_form, .ref naA, it_linesOfFile, .int (nI NF), .int (nI NL)])), (sk, .inr (9, [.ref b_y, sk_from, .ref fdA, .ref fcA, .ref dpA, sk_hashes, sk_byHash, sk_leansOn, sk_leantBy, .ref ch, sk_lines, .int (nI P)])), (b_y, .inl (cB, 290000, .inl f)), (fdA, .inl (cI, 502, .inl fdf)), (dpA, .inl (cI, 8400, .inl dpf)), (fcA, .inl (cI, 502, .inl fcf)), (naA, .inl (cI, 2048, .inl un)), (ch, .inr (1, [.ref cat, ch_patch, .ref cfA, .ref flA, ch_adds, ch_files])), (cat, .inl (cI, 38000, .inl ca)), (cfA, .inl (cI, 38000, .inl cff))]) hP hD [0, 1, 2, 3, 4, 5, 6, 7, 8, 9] [10] rfl rfl (by decide) (by decide) hk1 hFc hP1 hD1
      generalize H1 = H at hP hS ⊢
      have hP : va_P (dC, dI) classes [(flA, .inl (cI, 38000, .inl flf)), (h, .inr (3, [.ref sk, .ref ch, it_lines, it_sha, it_form, .ref naA, it_linesOfFile, .int (nI NF), .int (nI NL)])), (sk, .inr (9, [.ref b_y, sk_from, .ref fdA, .ref fcA, .ref dpA, sk_hashes, sk_byHash, sk_leansOn, sk_leantBy, .ref ch, sk_lines, .int (nI P)])), (b_y, .inl (cB, 290000, .inl f)), (fdA, .inl (cI, 502, .inl fdf)), (dpA, .inl (cI, 8400, .inl dpf)), (fcA, .inl (cI, 502, .inl fcf)), (naA, .inl (cI, 2048, .inl un)), (ch, .inr (1, [.ref cat, ch_patch, .ref cfA, .ref flA, ch_adds, ch_files])), (cat, .inl (cI, 38000, .inl ca)), (cfA, .inl (cI, 38000, .inl cff))] H := hP
      have hD : va_D A [(flA, .inl (cI, 38000, .inl flf)), (h, .inr (3, [.ref sk, .ref ch, it_lines, it_sha, it_form, .ref naA, it_linesOfFile, .int (nI NF), .int (nI NL)])), (sk, .inr (9, [.ref b_y, sk_from, .ref fdA, .ref fcA, .ref dpA, sk_hashes, sk_byHash, sk_leansOn, sk_leantBy, .ref ch, sk_lines, .int (nI P)])), (b_y, .inl (cB, 290000, .inl f)), (fdA, .inl (cI, 502, .inl fdf)), (dpA, .inl (cI, 8400, .inl dpf)), (fcA, .inl (cI, 502, .inl fcf)), (naA, .inl (cI, 2048, .inl un)), (ch, .inr (1, [.ref cat, ch_patch, .ref cfA, .ref flA, ch_adds, ch_files])), (cat, .inl (cI, 38000, .inl ca)), (cfA, .inl (cI, 38000, .inl cff))] := hD
      rcases hw with ⟨⟨hRR, rfl⟩ | ⟨rfl, hRR⟩, rfl⟩
      · have hP : va_P (dC, dI) classes [(flA, .inl (cI, 38000, .inl flf)), (h, .inr (3, [.ref sk, .ref ch, it_lines, it_sha, it_form, .ref naA, it_linesOfFile, .int (nI NF), .int (nI NL)])), (sk, .inr (9, [.ref b_y, sk_from, .ref fdA, .ref fcA, .ref dpA, sk_hashes, sk_byHash, sk_leansOn, sk_leantBy, .ref ch, sk_lines, .int (nI P)])), (b_y, .inl (cB, 290000, .inl f)), (fdA, .inl (cI, 502, .inl fdf)), (dpA, .inl (cI, 8400, .inl dpf)), (fcA, .inl (cI, 502, .inl fcf)), (naA, .inl (cI, 2048, .inl (nmU f nd (a + 1) nf))), (ch, .inr (1, [.ref cat, ch_patch, .ref cfA, .ref flA, ch_adds, ch_files])), (cat, .inl (cI, 38000, .inl ca)), (cfA, .inl (cI, 38000, .inl cff))] H := hP
        have hD : va_D A [(flA, .inl (cI, 38000, .inl flf)), (h, .inr (3, [.ref sk, .ref ch, it_lines, it_sha, it_form, .ref naA, it_linesOfFile, .int (nI NF), .int (nI NL)])), (sk, .inr (9, [.ref b_y, sk_from, .ref fdA, .ref fcA, .ref dpA, sk_hashes, sk_byHash, sk_leansOn, sk_leantBy, .ref ch, sk_lines, .int (nI P)])), (b_y, .inl (cB, 290000, .inl f)), (fdA, .inl (cI, 502, .inl fdf)), (dpA, .inl (cI, 8400, .inl dpf)), (fcA, .inl (cI, 502, .inl fcf)), (naA, .inl (cI, 2048, .inl (nmU f nd (a + 1) nf))), (ch, .inr (1, [.ref cat, ch_patch, .ref cfA, .ref flA, ch_adds, ch_files])), (cat, .inl (cI, 38000, .inl ca)), (cfA, .inl (cI, 38000, .inl cff))] := hD
        have hyb_yy : yy < 40000 := by obtain ⟨x9, z1, z2⟩ := hRR; have z3 := (gF x9 (cnR.lt (fun i z => (gD i z).2) gL z1)).2; first | (obtain ⟨-, rfl⟩ := z2; exact z3) | (obtain ⟨-, -, rfl⟩ := z2; exact z3)
        have hP := hP.sub (ws' := [(h, .inr (3, [.ref sk, .ref ch, it_lines, it_sha, it_form, .ref naA, it_linesOfFile, .int (nI NF), .int (nI NL)])), (sk, .inr (9, [.ref b_y, sk_from, .ref fdA, .ref fcA, .ref dpA, sk_hashes, sk_byHash, sk_leansOn, sk_leantBy, .ref ch, sk_lines, .int (nI P)])), (b_y, .inl (cB, 290000, .inl f)), (fdA, .inl (cI, 502, .inl fdf)), (dpA, .inl (cI, 8400, .inl dpf)), (fcA, .inl (cI, 502, .inl fcf)), (naA, .inl (cI, 2048, .inl (nmU f nd (a + 1) nf))), (ch, .inr (1, [.ref cat, ch_patch, .ref cfA, .ref flA, ch_adds, ch_files])), (cat, .inl (cI, 38000, .inl ca)), (cfA, .inl (cI, 38000, .inl cff)), (flA, .inl (cI, 38000, .inl flf))]) [1, 2, 3, 4, 5, 6, 7, 8, 9, 10, 0] rfl
        have hD := hD.sub (ws' := [(h, .inr (3, [.ref sk, .ref ch, it_lines, it_sha, it_form, .ref naA, it_linesOfFile, .int (nI NF), .int (nI NL)])), (sk, .inr (9, [.ref b_y, sk_from, .ref fdA, .ref fcA, .ref dpA, sk_hashes, sk_byHash, sk_leansOn, sk_leantBy, .ref ch, sk_lines, .int (nI P)])), (b_y, .inl (cB, 290000, .inl f)), (fdA, .inl (cI, 502, .inl fdf)), (dpA, .inl (cI, 8400, .inl dpf)), (fcA, .inl (cI, 502, .inl fcf)), (naA, .inl (cI, 2048, .inl (nmU f nd (a + 1) nf))), (ch, .inr (1, [.ref cat, ch_patch, .ref cfA, .ref flA, ch_adds, ch_files])), (cat, .inl (cI, 38000, .inl ca)), (cfA, .inl (cI, 38000, .inl cff)), (flA, .inl (cI, 38000, .inl flf))]) [1, 2, 3, 4, 5, 6, 7, 8, 9, 10, 0] (by decide) rfl
        rw [← hQe]
        exact W.iret (v := nI yy) hx hb hr (fun t ht hW => ⟨⟨_, (yy, nmU f nd (a + 1) nf, flf, NL, NF), rfl, Or.inl ⟨Or.inr (Or.inr (Or.inr (Or.inl ⟨hje, hRR⟩))), rfl, by unfold nmX; rw [hje]; rfl, by unfold flX; rw [hje]; rfl, by unfold NLX; rw [hje]; rfl, by unfold NFX; rw [hje]; rfl⟩, by rw [ht]; exact hP, va_K.moved hW.alike hK, hD⟩, hS.F ht⟩) hS.2.2 d_In_resolve_79
      · have hP : va_P (dC, dI) classes [(flA, .inl (cI, 38000, .inl flf)), (h, .inr (3, [.ref sk, .ref ch, it_lines, it_sha, it_form, .ref naA, it_linesOfFile, .int (nI NF), .int (nI NL)])), (sk, .inr (9, [.ref b_y, sk_from, .ref fdA, .ref fcA, .ref dpA, sk_hashes, sk_byHash, sk_leansOn, sk_leantBy, .ref ch, sk_lines, .int (nI P)])), (b_y, .inl (cB, 290000, .inl f)), (fdA, .inl (cI, 502, .inl fdf)), (dpA, .inl (cI, 8400, .inl dpf)), (fcA, .inl (cI, 502, .inl fcf)), (naA, .inl (cI, 2048, .inl (nmU f nd (a + 1) nf))), (ch, .inr (1, [.ref cat, ch_patch, .ref cfA, .ref flA, ch_adds, ch_files])), (cat, .inl (cI, 38000, .inl ca)), (cfA, .inl (cI, 38000, .inl cff))] H := hP
        have hD : va_D A [(flA, .inl (cI, 38000, .inl flf)), (h, .inr (3, [.ref sk, .ref ch, it_lines, it_sha, it_form, .ref naA, it_linesOfFile, .int (nI NF), .int (nI NL)])), (sk, .inr (9, [.ref b_y, sk_from, .ref fdA, .ref fcA, .ref dpA, sk_hashes, sk_byHash, sk_leansOn, sk_leantBy, .ref ch, sk_lines, .int (nI P)])), (b_y, .inl (cB, 290000, .inl f)), (fdA, .inl (cI, 502, .inl fdf)), (dpA, .inl (cI, 8400, .inl dpf)), (fcA, .inl (cI, 502, .inl fcf)), (naA, .inl (cI, 2048, .inl (nmU f nd (a + 1) nf))), (ch, .inr (1, [.ref cat, ch_patch, .ref cfA, .ref flA, ch_adds, ch_files])), (cat, .inl (cI, 38000, .inl ca)), (cfA, .inl (cI, 38000, .inl cff))] := hD
        have hP := hP.sub (ws' := [(h, .inr (3, [.ref sk, .ref ch, it_lines, it_sha, it_form, .ref naA, it_linesOfFile, .int (nI NF), .int (nI NL)])), (sk, .inr (9, [.ref b_y, sk_from, .ref fdA, .ref fcA, .ref dpA, sk_hashes, sk_byHash, sk_leansOn, sk_leantBy, .ref ch, sk_lines, .int (nI P)])), (b_y, .inl (cB, 290000, .inl f)), (fdA, .inl (cI, 502, .inl fdf)), (dpA, .inl (cI, 8400, .inl dpf)), (fcA, .inl (cI, 502, .inl fcf)), (naA, .inl (cI, 2048, .inl (nmU f nd (a + 1) nf))), (ch, .inr (1, [.ref cat, ch_patch, .ref cfA, .ref flA, ch_adds, ch_files])), (cat, .inl (cI, 38000, .inl ca)), (cfA, .inl (cI, 38000, .inl cff)), (flA, .inl (cI, 38000, .inl flf))]) [1, 2, 3, 4, 5, 6, 7, 8, 9, 10, 0] rfl
        have hD := hD.sub (ws' := [(h, .inr (3, [.ref sk, .ref ch, it_lines, it_sha, it_form, .ref naA, it_linesOfFile, .int (nI NF), .int (nI NL)])), (sk, .inr (9, [.ref b_y, sk_from, .ref fdA, .ref fcA, .ref dpA, sk_hashes, sk_byHash, sk_leansOn, sk_leantBy, .ref ch, sk_lines, .int (nI P)])), (b_y, .inl (cB, 290000, .inl f)), (fdA, .inl (cI, 502, .inl fdf)), (dpA, .inl (cI, 8400, .inl dpf)), (fcA, .inl (cI, 502, .inl fcf)), (naA, .inl (cI, 2048, .inl (nmU f nd (a + 1) nf))), (ch, .inr (1, [.ref cat, ch_patch, .ref cfA, .ref flA, ch_adds, ch_files])), (cat, .inl (cI, 38000, .inl ca)), (cfA, .inl (cI, 38000, .inl cff)), (flA, .inl (cI, 38000, .inl flf))]) [1, 2, 3, 4, 5, 6, 7, 8, 9, 10, 0] (by decide) rfl
        rw [← hQe]
        exact W.iret (v := (-1)) hx hb hr (fun t ht hW => ⟨⟨_, (0, nmU f nd (a + 1) nf, flf, NL, NF), rfl, Or.inr ⟨rfl, fun q z => hRR q (rsR_3 hje z), fun _ _ => rfl⟩, by rw [ht]; exact hP, va_K.moved hW.alike hK, hD⟩, hS.F ht⟩) hS.2.2 d_In_resolve_79
set_option maxHeartbeats 4000000 in
set_option maxRecDepth 100000 in
/-- whether all dependencies are named -/
theorem m_In_allNamed (l : Launch) (dC : Nat → ClassId) (dI : Nat → Nat → Nat) (cI cB cL cZ cR : ClassId) (h sk fdA naA : Nat) (it_changes it_lines it_sha it_form it_linesOfFile it_nextFile it_nextLine sk_bytes sk_from sk_firstChange sk_dependencies sk_hashes sk_byHash sk_leansOn sk_leantBy sk_changes sk_lines : Value) (fdf nf : Nat → Int32) (P D0 nd : Nat) (sz : Nat) (hP5 : P ≤ 500) (gE0 : fdf P = nI D0) (gE1 : fdf (P + 1) = nI (D0 + nd)) (hnd : nd ≤ 2048) (hDr : D0 + nd ≤ 8400) : Met l y_In_allNamed ws_In_allNamed ({ frames := 0, cells := 0, slots := 0, locals := 0 }) (xw_Pc dC dI [(cI, .int), (cB, .byte), (cL, .long), (cZ, .boolean), (cR, .object "PatchStore$Repository")] [.ref h] [(h, .inr (3, [.ref sk, it_changes, it_lines, it_sha, it_form, .ref naA, it_linesOfFile, it_nextFile, it_nextLine])), (sk, .inr (9, [sk_bytes, sk_from, .ref fdA, sk_firstChange, sk_dependencies, sk_hashes, sk_byHash, sk_leansOn, sk_leantBy, sk_changes, sk_lines, .int (nI P)])), (fdA, .inl (cI, 502, .inl fdf)), (naA, .inl (cI, 2048, .inl nf))] sz) (va_Qi (fun (r : Int32) (_ : Unit) => (r = 1 ∧ ∀ j, j < nd → ¬ nf j = 0) ∨ (r = 0 ∧ ¬ ∀ j, j < nd → ¬ nf j = 0)) (fun _ t => xw_B dC dI [(cI, .int), (cB, .byte), (cL, .long), (cZ, .boolean), (cR, .object "PatchStore$Repository")] (va_A [(h, .inr (3, [.ref sk, it_changes, it_lines, it_sha, it_form, .ref naA, it_linesOfFile, it_nextFile, it_nextLine])), (sk, .inr (9, [sk_bytes, sk_from, .ref fdA, sk_firstChange, sk_dependencies, sk_hashes, sk_byHash, sk_leansOn, sk_leantBy, sk_changes, sk_lines, .int (nI P)])), (fdA, .inl (cI, 502, .inl fdf)), (naA, .inl (cI, 2048, .inl nf))] sz) [(h, .inr (3, [.ref sk, it_changes, it_lines, it_sha, it_form, .ref naA, it_linesOfFile, it_nextFile, it_nextLine])), (sk, .inr (9, [sk_bytes, sk_from, .ref fdA, sk_firstChange, sk_dependencies, sk_hashes, sk_byHash, sk_leansOn, sk_leantBy, sk_changes, sk_lines, .int (nI P)])), (fdA, .inl (cI, 502, .inl fdf)), (naA, .inl (cI, 2048, .inl nf))] t) (va_A [(h, .inr (3, [.ref sk, it_changes, it_lines, it_sha, it_form, .ref naA, it_linesOfFile, it_nextFile, it_nextLine])), (sk, .inr (9, [sk_bytes, sk_from, .ref fdA, sk_firstChange, sk_dependencies, sk_hashes, sk_byHash, sk_leansOn, sk_leantBy, sk_changes, sk_lines, .int (nI P)])), (fdA, .inl (cI, 502, .inl fdf)), (naA, .inl (cI, 2048, .inl nf))] sz)) 0 0 (va_A [(h, .inr (3, [.ref sk, it_changes, it_lines, it_sha, it_form, .ref naA, it_linesOfFile, it_nextFile, it_nextLine])), (sk, .inr (9, [sk_bytes, sk_from, .ref fdA, sk_firstChange, sk_dependencies, sk_hashes, sk_byHash, sk_leansOn, sk_leantBy, sk_changes, sk_lines, .int (nI P)])), (fdA, .inl (cI, 502, .inl fdf)), (naA, .inl (cI, 2048, .inl nf))] sz) := by
  refine Met.ofW (cc := prog_4_method_14_code) (maxL := 3) (ret := (Option.some Jvm.ClassFile.FieldType.boolean)) (by decide) rfl ?_
  intro p e s m args below meth c s₁ B hml hv
  obtain ⟨rfl, hsz, hP, hK, hD0⟩ := hv
  have hx := B.exec
  have hb := B.bytes
  have hr := B.returns
  have hts0 := atoms_spec (ws := ws_In_allNamed) B.pre
  have hts : ∀ w ∈ xg_1, w.before _ s = true := fun w h => hts0 w (List.mem_cons_of_mem _ h)
  have hown : s.vm.findClass "PatchStore$Intake" = some m.cls := findClass_of_methodNamed B.named
  have hlocks := B.notSynchronized
  subst hsz
  have hD := hD0.self (sz := s.heap.size)
  generalize hAe : va_A [(h, .inr (3, [.ref sk, it_changes, it_lines, it_sha, it_form, .ref naA, it_linesOfFile, it_nextFile, it_nextLine])), (sk, .inr (9, [sk_bytes, sk_from, .ref fdA, sk_firstChange, sk_dependencies, sk_hashes, sk_byHash, sk_leansOn, sk_leantBy, sk_changes, sk_lines, .int (nI P)])), (fdA, .inl (cI, 502, .inl fdf)), (naA, .inl (cI, 2048, .inl nf))] s.heap.size = A at hD ⊢
  have hA : ∀ q : Nat, s.heap.size ≤ q → A q := fun q h => by rw [← hAe]; exact Or.inr h
  have hS : va_S A s.heap s.heap [] := va_S.rf
  have hl := lv_entry ([.ref h]) (n := 3) (Nat.le_of_ble_eq_true rfl)
  rw [lg_entry_eq]
  generalize (lg_sl ([.ref h]) ++ List.replicate (3 - (lg_sl ([.ref h])).length) Slot.unset).toArray = ls at hl ⊢
  have hl : lv_has ls 3 [(0, .ref h)] := hl
  generalize hQe : MQ _ _ _ _ _ _ _ = Q
  refine lv_aload_n hx hb d_In_allNamed_0 rfl (lv_at hl 0 rfl) ?_
  refine va_get (D := (dC, dI)) (ci := 3) (v := .ref sk) (C := R_In) (T := F_In) (N := 9) hx hb hts i_In hown hK hP 0 rfl rfl 0 (by decide) (hts _ gw_284) (fun _ h9 => h9) rfl d_In_allNamed_1 ?_
  refine va_get (D := (dC, dI)) (ci := 9) (v := .ref fdA) (C := R_St) (T := F_St) (N := 12) hx hb hts i_St hown hK hP 1 rfl rfl 2 (by decide) (hts _ gw_195) (fun _ h9 => h9) rfl d_In_allNamed_4 ?_
  refine lv_aload_n hx hb d_In_allNamed_7 rfl (lv_at hl 0 rfl) ?_
  refine va_get (D := (dC, dI)) (ci := 3) (v := .ref sk) (C := R_In) (T := F_In) (N := 9) hx hb hts i_In hown hK hP 0 rfl rfl 0 (by decide) (hts _ gw_284) (fun _ h9 => h9) rfl d_In_allNamed_8 ?_
  refine va_get (D := (dC, dI)) (ci := 9) (v := .int (nI P)) (C := R_St) (T := F_St) (N := 12) hx hb hts i_St hown hK hP 1 rfl rfl 11 (by decide) (hts _ gw_238) (fun _ h9 => h9) rfl d_In_allNamed_11 ?_
  refine lv_iconst (v := 1) hx hb d_In_allNamed_14 (by decide) ?_
  refine lv_iadd hx hb d_In_allNamed_15 ?_
  refine lv_topi (fun x_1 ex_1 => ?_)
  obtain rfl : x_1 = nI (P + 1) := by rw [ex_1]; first | done | (exact nI_add _ _)
  refine va_iald hx hb hK hP 2 0 rfl rfl (vp_in_nI (by omega) (by omega)) d_In_allNamed_16 ?_
  rw [show (nI (P + 1)).toNatClampNeg = (P + 1) from nI_clamp (by omega)]
  refine lv_topi (fun x_2 ex_2 => ?_)
  obtain rfl : x_2 = nI (D0 + nd) := by rw [ex_2]; first | done | (exact gE1)
  refine lv_aload_n hx hb d_In_allNamed_17 rfl (lv_at hl 0 rfl) ?_
  refine va_get (D := (dC, dI)) (ci := 3) (v := .ref sk) (C := R_In) (T := F_In) (N := 9) hx hb hts i_In hown hK hP 0 rfl rfl 0 (by decide) (hts _ gw_284) (fun _ h9 => h9) rfl d_In_allNamed_18 ?_
  refine va_get (D := (dC, dI)) (ci := 9) (v := .ref fdA) (C := R_St) (T := F_St) (N := 12) hx hb hts i_St hown hK hP 1 rfl rfl 2 (by decide) (hts _ gw_195) (fun _ h9 => h9) rfl d_In_allNamed_21 ?_
  refine lv_aload_n hx hb d_In_allNamed_24 rfl (lv_at hl 0 rfl) ?_
  refine va_get (D := (dC, dI)) (ci := 3) (v := .ref sk) (C := R_In) (T := F_In) (N := 9) hx hb hts i_In hown hK hP 0 rfl rfl 0 (by decide) (hts _ gw_284) (fun _ h9 => h9) rfl d_In_allNamed_25 ?_
  refine va_get (D := (dC, dI)) (ci := 9) (v := .int (nI P)) (C := R_St) (T := F_St) (N := 12) hx hb hts i_St hown hK hP 1 rfl rfl 11 (by decide) (hts _ gw_238) (fun _ h9 => h9) rfl d_In_allNamed_28 ?_
  refine va_iald hx hb hK hP 2 0 rfl rfl (vp_in_nI (by omega) (by omega)) d_In_allNamed_31 ?_
  rw [show (nI P).toNatClampNeg = P from nI_clamp (by omega)]
  refine lv_topi (fun x_3 ex_3 => ?_)
  obtain rfl : x_3 = nI D0 := by rw [ex_3]; first | done | (exact gE0)
  refine lv_isub hx hb d_In_allNamed_32 ?_
  refine lv_topi (fun x_4 ex_4 => ?_)
  obtain rfl : x_4 = nI nd := by rw [ex_4]; first | done | (exact (nI_subN (by omega)).trans (by rw [show D0 + nd - D0 = nd by omega]))
  refine lv_istore_n (lv' := [(1, .int (nI nd)), (0, .ref h)]) hx hb d_In_allNamed_33 rfl hl (by decide) rfl (fun ls hl => ?_)
  refine lv_iconst (v := 0) hx hb d_In_allNamed_34 (by decide) ?_
  refine lv_istore_n (lv' := [(2, .int 0), (1, .int (nI nd)), (0, .ref h)]) hx hb d_In_allNamed_35 rfl hl (by decide) rfl (fun ls hl => ?_)
  have loop_36 : ∀ (n9 : Nat) (k : Nat) (H : Heap) (locs : List Loc) (ls : Array Slot), nd - k < n9 → (k ≤ nd) → (∀ j, j < k → ¬ nf j = 0) → va_P (dC, dI) classes [(h, .inr (3, [.ref sk, it_changes, it_lines, it_sha, it_form, .ref naA, it_linesOfFile, it_nextFile, it_nextLine])), (sk, .inr (9, [sk_bytes, sk_from, .ref fdA, sk_firstChange, sk_dependencies, sk_hashes, sk_byHash, sk_leansOn, sk_leantBy, sk_changes, sk_lines, .int (nI P)])), (fdA, .inl (cI, 502, .inl fdf)), (naA, .inl (cI, 2048, .inl nf))] H → va_D A [(h, .inr (3, [.ref sk, it_changes, it_lines, it_sha, it_form, .ref naA, it_linesOfFile, it_nextFile, it_nextLine])), (sk, .inr (9, [sk_bytes, sk_from, .ref fdA, sk_firstChange, sk_dependencies, sk_hashes, sk_byHash, sk_leansOn, sk_leantBy, sk_changes, sk_lines, .int (nI P)])), (fdA, .inl (cI, 502, .inl fdf)), (naA, .inl (cI, 2048, .inl nf))] → va_S A s.heap H locs → lv_has ls 3 [(0, .ref h), (1, .int (nI nd)), (2, .int (nI k))] → W p l e (headSpec ws_In_allNamed ({ frames := 0, cells := 0, slots := 0, locals := 0 })).room s m ([.ref h] : List Value).toArray below meth c H locs 0 0 Q (F0 m 36 ls []) := by
    intro n9
    induction n9 with
    | zero => intro k H locs ls hm; exact absurd hm (Nat.not_lt_zero _)
    | succ n9 ih_36 =>
      intro k H locs ls hm hk hq hP hD hS hl
      refine lv_iload_n hx hb d_In_allNamed_36 rfl (lv_at hl 2 rfl) ?_
      refine lv_iload_n hx hb d_In_allNamed_37 rfl (lv_at hl 1 rfl) ?_
      refine lv_icmp_ge (tgt := 58) hx hb d_In_allNamed_38 (by decide) (fun c_38 => ?_) (fun c_38 => ?_)
      · have n_38 : nd ≤ k := (nI_leI (a := nd) (b := k) (by omega) (by omega)).mp c_38
        refine lv_iconst (v := 1) hx hb d_In_allNamed_58 (by decide) ?_
        rw [← hQe]
        exact W.zret (v := 1) hx hb hr nz_b1 (fun t ht hW => ⟨⟨_, (), rfl, Or.inl ⟨rfl, fun j z => hq j (by omega)⟩, by rw [ht]; exact hP, va_K.moved hW.alike hK, hD⟩, hS.F ht⟩) hS.2.2 d_In_allNamed_59
      · have n_38 : k < nd := Nat.lt_of_not_le (fun z => c_38 ((nI_leI (a := nd) (b := k) (by omega) (by omega)).mpr z))
        refine lv_aload_n hx hb d_In_allNamed_41 rfl (lv_at hl 0 rfl) ?_
        refine va_get (D := (dC, dI)) (ci := 3) (v := .ref naA) (C := R_In) (T := F_In) (N := 9) hx hb hts i_In hown hK hP 0 rfl rfl 5 (by decide) (hts _ gw_289) (fun _ h9 => h9) rfl d_In_allNamed_42 ?_
        refine lv_iload_n hx hb d_In_allNamed_45 rfl (lv_at hl 2 rfl) ?_
        refine va_iald hx hb hK hP 3 0 rfl rfl (vp_in_nI (by omega) (by omega)) d_In_allNamed_46 ?_
        rw [show (nI k).toNatClampNeg = k from nI_clamp (by omega)]
        refine lv_if_ne (tgt := 52) hx hb d_In_allNamed_47 (by decide) (fun c_47 => ?_) (fun c_47 => ?_)
        · refine lv_iinc (v := nI (k + 1)) (lv' := [(2, .int (nI (k + 1))), (0, .ref h), (1, .int (nI nd))]) hx hb d_In_allNamed_52 hl (k := 2) rfl (by exact nI_add _ _) (by decide) rfl (fun ls hl => ?_)
          refine lv_goto (tgt := 36) hx hb d_In_allNamed_55 (by decide) ?_
          exact ih_36 (k + 1) _ _ _ (by omega) (by omega) (fun j z => if h9 : j = k then h9 ▸ c_47 else hq j (by omega)) hP hD hS (lv_sub hl [1, 2, 0] rfl)
        · refine lv_iconst (v := 0) hx hb d_In_allNamed_50 (by decide) ?_
          rw [← hQe]
          exact W.zret (v := 0) hx hb hr nz_b0 (fun t ht hW => ⟨⟨_, (), rfl, Or.inr ⟨rfl, fun z => z k n_38 c_47⟩, by rw [ht]; exact hP, va_K.moved hW.alike hK, hD⟩, hS.F ht⟩) hS.2.2 d_In_allNamed_51
  exact loop_36 _ 0 _ _ _ (Nat.lt_succ_self _) (Nat.zero_le _) (fun j z => absurd z (Nat.not_lt_zero _)) hP hD hS (lv_sub hl [2, 1, 0] rfl)
end
section
/-! 66.bits.lean.txt -/
theorem gw_983 : (Jvm.Cond.methodLink "PatchStore$Repository" (31 : Nat) ({ cls := "PatchStore$Repository", name := "holds", desc := "(I)Z" } : Jvm.MethodName)) ∈ xg_1 := xg_s5 23 rfl rfl
def y_Re_take : MethodName := ⟨"PatchStore$Repository", "take", "(I)I"⟩
abbrev c_Re_take : Cond := (Jvm.Cond.code ({ cls := "PatchStore$Repository", name := "take", desc := "(I)I" } : Jvm.MethodName) prog_8_method_5_code (2 : Nat) (Option.some Jvm.ClassFile.FieldType.int))
abbrev ws_Re_take : List Cond := c_Re_take :: xg_1
theorem d_Re_take_0 : decode prog_8_method_5_code 0 = .ok (.aload_n 0, 1) := by decide +kernel
theorem d_Re_take_1 : decode prog_8_method_5_code 1 = .ok (.iload_n 1, 1) := by decide +kernel
theorem d_Re_take_2 : decode prog_8_method_5_code 2 = .ok (.invokevirtual 31, 3) := by decide +kernel
theorem d_Re_take_5 : decode prog_8_method_5_code 5 = .ok (.ifCond .eq 5, 3) := by decide +kernel
theorem d_Re_take_8 : decode prog_8_method_5_code 8 = .ok (.iconst 0, 1) := by decide +kernel
theorem d_Re_take_9 : decode prog_8_method_5_code 9 = .ok (.ireturn, 1) := by decide +kernel
theorem d_Re_take_10 : decode prog_8_method_5_code 10 = .ok (.aload_n 0, 1) := by decide +kernel
theorem d_Re_take_11 : decode prog_8_method_5_code 11 = .ok (.getfield 9, 3) := by decide +kernel
theorem d_Re_take_14 : decode prog_8_method_5_code 14 = .ok (.iload_n 1, 1) := by decide +kernel
theorem d_Re_take_15 : decode prog_8_method_5_code 15 = .ok (.bipush 6, 2) := by decide +kernel
theorem d_Re_take_17 : decode prog_8_method_5_code 17 = .ok (.ishr, 1) := by decide +kernel
theorem d_Re_take_18 : decode prog_8_method_5_code 18 = .ok (.dup2, 1) := by decide +kernel
theorem d_Re_take_19 : decode prog_8_method_5_code 19 = .ok (.laload, 1) := by decide +kernel
theorem d_Re_take_20 : decode prog_8_method_5_code 20 = .ok (.lconst 1, 1) := by decide +kernel
theorem d_Re_take_21 : decode prog_8_method_5_code 21 = .ok (.iload_n 1, 1) := by decide +kernel
theorem d_Re_take_22 : decode prog_8_method_5_code 22 = .ok (.bipush 63, 2) := by decide +kernel
theorem d_Re_take_24 : decode prog_8_method_5_code 24 = .ok (.iand, 1) := by decide +kernel
theorem d_Re_take_25 : decode prog_8_method_5_code 25 = .ok (.lshl, 1) := by decide +kernel
theorem d_Re_take_26 : decode prog_8_method_5_code 26 = .ok (.lor, 1) := by decide +kernel
theorem d_Re_take_27 : decode prog_8_method_5_code 27 = .ok (.lastore, 1) := by decide +kernel
theorem d_Re_take_28 : decode prog_8_method_5_code 28 = .ok (.aload_n 0, 1) := by decide +kernel
theorem d_Re_take_29 : decode prog_8_method_5_code 29 = .ok (.dup, 1) := by decide +kernel
theorem d_Re_take_30 : decode prog_8_method_5_code 30 = .ok (.getfield 35, 3) := by decide +kernel
theorem d_Re_take_33 : decode prog_8_method_5_code 33 = .ok (.iconst 1, 1) := by decide +kernel
theorem d_Re_take_34 : decode prog_8_method_5_code 34 = .ok (.iadd, 1) := by decide +kernel
theorem d_Re_take_35 : decode prog_8_method_5_code 35 = .ok (.putfield 35, 3) := by decide +kernel
theorem d_Re_take_38 : decode prog_8_method_5_code 38 = .ok (.aload_n 0, 1) := by decide +kernel
theorem d_Re_take_39 : decode prog_8_method_5_code 39 = .ok (.dup, 1) := by decide +kernel
theorem d_Re_take_40 : decode prog_8_method_5_code 40 = .ok (.getfield 38, 3) := by decide +kernel
theorem d_Re_take_43 : decode prog_8_method_5_code 43 = .ok (.iconst 1, 1) := by decide +kernel
theorem d_Re_take_44 : decode prog_8_method_5_code 44 = .ok (.iadd, 1) := by decide +kernel
theorem d_Re_take_45 : decode prog_8_method_5_code 45 = .ok (.putfield 38, 3) := by decide +kernel
theorem d_Re_take_48 : decode prog_8_method_5_code 48 = .ok (.iconst 1, 1) := by decide +kernel
theorem d_Re_take_49 : decode prog_8_method_5_code 49 = .ok (.ireturn, 1) := by decide +kernel
def y_Re_leave : MethodName := ⟨"PatchStore$Repository", "leave", "(I)V"⟩
abbrev c_Re_leave : Cond := (Jvm.Cond.code ({ cls := "PatchStore$Repository", name := "leave", desc := "(I)V" } : Jvm.MethodName) prog_8_method_7_code (2 : Nat) (Option.none : Option Jvm.ClassFile.FieldType))
abbrev ws_Re_leave : List Cond := c_Re_leave :: xg_1
theorem d_Re_leave_0 : decode prog_8_method_7_code 0 = .ok (.aload_n 0, 1) := by decide +kernel
theorem d_Re_leave_1 : decode prog_8_method_7_code 1 = .ok (.getfield 9, 3) := by decide +kernel
theorem d_Re_leave_4 : decode prog_8_method_7_code 4 = .ok (.iload_n 1, 1) := by decide +kernel
theorem d_Re_leave_5 : decode prog_8_method_7_code 5 = .ok (.bipush 6, 2) := by decide +kernel
theorem d_Re_leave_7 : decode prog_8_method_7_code 7 = .ok (.ishr, 1) := by decide +kernel
theorem d_Re_leave_8 : decode prog_8_method_7_code 8 = .ok (.dup2, 1) := by decide +kernel
theorem d_Re_leave_9 : decode prog_8_method_7_code 9 = .ok (.laload, 1) := by decide +kernel
theorem d_Re_leave_10 : decode prog_8_method_7_code 10 = .ok (.lconst 1, 1) := by decide +kernel
theorem d_Re_leave_11 : decode prog_8_method_7_code 11 = .ok (.iload_n 1, 1) := by decide +kernel
theorem d_Re_leave_12 : decode prog_8_method_7_code 12 = .ok (.bipush 63, 2) := by decide +kernel
theorem d_Re_leave_14 : decode prog_8_method_7_code 14 = .ok (.iand, 1) := by decide +kernel
theorem d_Re_leave_15 : decode prog_8_method_7_code 15 = .ok (.lshl, 1) := by decide +kernel
theorem d_Re_leave_16 : decode prog_8_method_7_code 16 = .ok (.ldc2_w 23, 3) := by decide +kernel
theorem d_Re_leave_19 : decode prog_8_method_7_code 19 = .ok (.lxor, 1) := by decide +kernel
theorem d_Re_leave_20 : decode prog_8_method_7_code 20 = .ok (.land, 1) := by decide +kernel
theorem d_Re_leave_21 : decode prog_8_method_7_code 21 = .ok (.lastore, 1) := by decide +kernel
theorem d_Re_leave_22 : decode prog_8_method_7_code 22 = .ok (.aload_n 0, 1) := by decide +kernel
theorem d_Re_leave_23 : decode prog_8_method_7_code 23 = .ok (.dup, 1) := by decide +kernel
theorem d_Re_leave_24 : decode prog_8_method_7_code 24 = .ok (.getfield 35, 3) := by decide +kernel
theorem d_Re_leave_27 : decode prog_8_method_7_code 27 = .ok (.iconst 1, 1) := by decide +kernel
theorem d_Re_leave_28 : decode prog_8_method_7_code 28 = .ok (.isub, 1) := by decide +kernel
theorem d_Re_leave_29 : decode prog_8_method_7_code 29 = .ok (.putfield 35, 3) := by decide +kernel
theorem d_Re_leave_32 : decode prog_8_method_7_code 32 = .ok (.aload_n 0, 1) := by decide +kernel
theorem d_Re_leave_33 : decode prog_8_method_7_code 33 = .ok (.dup, 1) := by decide +kernel
theorem d_Re_leave_34 : decode prog_8_method_7_code 34 = .ok (.getfield 38, 3) := by decide +kernel
theorem d_Re_leave_37 : decode prog_8_method_7_code 37 = .ok (.iconst 1, 1) := by decide +kernel
theorem d_Re_leave_38 : decode prog_8_method_7_code 38 = .ok (.iadd, 1) := by decide +kernel
theorem d_Re_leave_39 : decode prog_8_method_7_code 39 = .ok (.putfield 38, 3) := by decide +kernel
theorem d_Re_leave_42 : decode prog_8_method_7_code 42 = .ok (.return_, 1) := by decide +kernel
theorem bt_s : ∀ j, j < 64 → (((nI j).toInt64 &&& 63).toBitVec.smod 64).toNat = j := by decide +kernel
theorem bt_and1 (y : BitVec 64) : y &&& 1#64 = 0#64 ↔ y.getLsbD 0 = false := by
  constructor
  · intro h
    have := congrArg (fun z => z.getLsbD 0) h
    simpa using this
  · intro h
    apply BitVec.eq_of_getLsbD_eq
    intro i hi
    simp [BitVec.getLsbD_one]
    intro h1 h2
    subst h2
    rw [h] at h1; cases h1
theorem bt_get (x : Int64) (j : Nat) (hj : j < 64) : lg_cmp ((x >>> ((nI j).toInt64 &&& 63)) &&& 1) 0 = 0 ↔ x.toBitVec.getLsbD j = false := by
  rw [lg_cmp_eq, ← Int64.toBitVec_inj, Int64.toBitVec_and, Int64.toBitVec_shiftRight]
  show x.toBitVec.sshiftRight' _ &&& 1#64 = 0#64 ↔ _
  rw [bt_and1, BitVec.sshiftRight_eq', bt_s j hj, BitVec.getLsbD_sshiftRight]
  simp [hj]
theorem bt_one (j : Nat) (hj : j < 64) (i : Nat) : ((1 : Int64) <<< ((nI j).toInt64 &&& 63)).toBitVec.getLsbD i = decide (i = j) := by
  rw [Int64.toBitVec_shiftLeft, BitVec.shiftLeft_eq', bt_s j hj]
  show ((1#64) <<< j).getLsbD i = _
  rw [BitVec.getLsbD_shiftLeft, BitVec.getLsbD_one]
  by_cases h : i = j
  · subst h; simp [hj]
  · simp [h]; omega
theorem bt_or (x : Int64) (j : Nat) (hj : j < 64) (i : Nat) : (x ||| ((1 : Int64) <<< ((nI j).toInt64 &&& 63))).toBitVec.getLsbD i = (x.toBitVec.getLsbD i || decide (i = j)) := by
  rw [Int64.toBitVec_or, BitVec.getLsbD_or, bt_one j hj]
theorem bt_off (x : Int64) (j : Nat) (hj : j < 64) (i : Nat) (hi : i < 64) : (x &&& (((1 : Int64) <<< ((nI j).toInt64 &&& 63)) ^^^ (-1))).toBitVec.getLsbD i = (x.toBitVec.getLsbD i && !decide (i = j)) := by
  rw [Int64.toBitVec_and, BitVec.getLsbD_and, Int64.toBitVec_xor, BitVec.getLsbD_xor, bt_one j hj]
  rw [show (-1 : Int64).toBitVec = BitVec.allOnes 64 from by decide, BitVec.getLsbD_allOnes]
  simp [hi]
/-- whether n is in the set -/
def bt (mw : Nat → Int64) (n : Nat) : Bool := (mw (n / 64)).toBitVec.getLsbD (n % 64)
theorem re_bt {mw : Nat → Int64} {n : Nat} : re_bit mw n ↔ bt mw n = true := by
  unfold re_bit bt
  rw [bt_get _ _ (Nat.mod_lt _ (by decide))]
  simp
theorem re_ok_bt {mw : Nat → Int64} {n : Nat} (hn : n < 500) : re_ok mw (nI n) ↔ bt mw n = true := by
  constructor
  · rintro ⟨k, hk, e, hb⟩
    rw [(nI_eq (by omega) (by omega)).mp e]
    exact re_bt.mp hb
  · intro h
    exact ⟨n, hn, rfl, re_bt.mpr h⟩
/-- with n put in -/
def bt_in (mw : Nat → Int64) (n : Nat) : Nat → Int64 := vp_updL mw (n / 64) (mw (n / 64) ||| ((1 : Int64) <<< ((nI (n % 64)).toInt64 &&& 63)))
/-- with n taken out -/
def bt_un (mw : Nat → Int64) (n : Nat) : Nat → Int64 := vp_updL mw (n / 64) (mw (n / 64) &&& (((1 : Int64) <<< ((nI (n % 64)).toInt64 &&& 63)) ^^^ (-1)))
theorem bt_in_at (mw : Nat → Int64) (n k : Nat) : bt (bt_in mw n) k = (bt mw k || decide (k = n)) := by
  unfold bt bt_in vp_updL
  by_cases h : k / 64 = n / 64
  · rw [if_pos h, ← h, bt_or _ _ (Nat.mod_lt _ (by decide))]
    congr 1
    by_cases e : k = n
    · subst e; simp
    · have : ¬ k % 64 = n % 64 := by omega
      simp [e, this]
  · rw [if_neg h]
    have : ¬ k = n := fun e => h (by rw [e])
    simp [this]
theorem bt_un_at (mw : Nat → Int64) (n k : Nat) : bt (bt_un mw n) k = (bt mw k && !decide (k = n)) := by
  unfold bt bt_un vp_updL
  by_cases h : k / 64 = n / 64
  · rw [if_pos h, ← h, bt_off _ _ (Nat.mod_lt _ (by decide)) _ (Nat.mod_lt _ (by decide))]
    congr 1
    by_cases e : k = n
    · subst e; simp
    · have : ¬ k % 64 = n % 64 := by omega
      simp [e, this]
  · rw [if_neg h]
    have : ¬ k = n := fun e => h (by rw [e])
    simp [this]
set_option maxHeartbeats 4000000 in
set_option maxRecDepth 100000 in
/-- a patch leaves the set -/
theorem m_Re_leave (l : Launch) (dC : Nat → ClassId) (dI : Nat → Nat → Nat) (cI cB cL cZ cR : ClassId) (h mb : Nat) (rr_digest rr_digestVersion : Value) (mw : Nat → Int64) (zz vv n0 : Nat) (sz : Nat) (hn0 : n0 < 500) (hz1 : 1 ≤ zz) : Met l y_Re_leave ws_Re_leave ({ frames := 0, cells := 0, slots := 0, locals := 0 }) (xw_Pc dC dI [(cI, .int), (cB, .byte), (cL, .long), (cZ, .boolean), (cR, .object "PatchStore$Repository")] [.ref h, .int (nI n0)] [(h, .inr (7, [.ref mb, rr_digest, .int (nI zz), .int (nI vv), rr_digestVersion])), (mb, .inl (cL, 8, .inr (.inl mw)))] sz) (va_Qv (fun _ : Unit => True) (fun _ t => xw_B dC dI [(cI, .int), (cB, .byte), (cL, .long), (cZ, .boolean), (cR, .object "PatchStore$Repository")] (va_A [(h, .inr (7, [.ref mb, rr_digest, .int (nI zz), .int (nI vv), rr_digestVersion])), (mb, .inl (cL, 8, .inr (.inl mw)))] sz) [(h, .inr (7, [.ref mb, rr_digest, .int (nI (zz - 1)), .int (nI (vv + 1)), rr_digestVersion])), (mb, .inl (cL, 8, .inr (.inl (bt_un mw n0))))] t) (va_A [(h, .inr (7, [.ref mb, rr_digest, .int (nI zz), .int (nI vv), rr_digestVersion])), (mb, .inl (cL, 8, .inr (.inl mw)))] sz)) 0 0 (va_A [(h, .inr (7, [.ref mb, rr_digest, .int (nI zz), .int (nI vv), rr_digestVersion])), (mb, .inl (cL, 8, .inr (.inl mw)))] sz) := by
  refine Met.ofW (cc := prog_8_method_7_code) (maxL := 2) (ret := none) (by decide) rfl ?_
  intro p e s m args below meth c s₁ B hml hv
  obtain ⟨rfl, hsz, hP, hK, hD0⟩ := hv
  have hx := B.exec
  have hb := B.bytes
  have hr := B.returns
  have hts0 := atoms_spec (ws := ws_Re_leave) B.pre
  have hts : ∀ w ∈ xg_1, w.before _ s = true := fun w h => hts0 w (List.mem_cons_of_mem _ h)
  have hown : s.vm.findClass "PatchStore$Repository" = some m.cls := findClass_of_methodNamed B.named
  have hlocks := B.notSynchronized
  subst hsz
  have hD := hD0.self (sz := s.heap.size)
  generalize hAe : va_A [(h, .inr (7, [.ref mb, rr_digest, .int (nI zz), .int (nI vv), rr_digestVersion])), (mb, .inl (cL, 8, .inr (.inl mw)))] s.heap.size = A at hD ⊢
  have hA : ∀ q : Nat, s.heap.size ≤ q → A q := fun q h => by rw [← hAe]; exact Or.inr h
  have hS : va_S A s.heap s.heap [] := va_S.rf
  have hl := lv_entry ([.ref h, .int (nI n0)]) (n := 2) (Nat.le_of_ble_eq_true rfl)
  rw [lg_entry_eq]
  generalize (lg_sl ([.ref h, .int (nI n0)]) ++ List.replicate (2 - (lg_sl ([.ref h, .int (nI n0)])).length) Slot.unset).toArray = ls at hl ⊢
  have hl : lv_has ls 2 [(0, .ref h), (1, .int (nI n0))] := hl
  refine lv_aload_n hx hb d_Re_leave_0 rfl (lv_at hl 0 rfl) ?_
  refine va_get (D := (dC, dI)) (ci := 7) (v := .ref mb) (C := R_Re) (T := F_Re) (N := 5) hx hb hts i_Re hown hK hP 0 rfl rfl 0 (by decide) (hts _ gw_527) (fun _ h9 => h9) rfl d_Re_leave_1 ?_
  refine lv_iload_n hx hb d_Re_leave_4 rfl (lv_at hl 1 rfl) ?_
  refine lv_bipush (v := 6) hx hb d_Re_leave_5 (by decide) ?_
  refine lv_ishr hx hb d_Re_leave_7 ?_
  refine lv_topi (fun x_1 ex_1 => ?_)
  obtain rfl : x_1 = nI (n0 / 64) := by rw [ex_1]; first | done | (exact pk_shrN (by omega) _ 6 (by decide))
  refine lv_dup2_11 hx hb d_Re_leave_8 rfl rfl ?_
  refine va_lald hx hb hK hP 1 2 rfl rfl (vp_in_nI (by omega) (by omega)) d_Re_leave_9 ?_
  rw [show (nI (n0 / 64)).toNatClampNeg = (n0 / 64) from nI_clamp (by omega)]
  refine lv_lconst (v := 1) hx hb d_Re_leave_10 (by decide) ?_
  refine lv_iload_n hx hb d_Re_leave_11 rfl (lv_at hl 1 rfl) ?_
  refine lv_bipush (v := 63) hx hb d_Re_leave_12 (by decide) ?_
  refine lv_iand hx hb d_Re_leave_14 ?_
  refine lv_topi (fun x_2 ex_2 => ?_)
  obtain rfl : x_2 = nI (n0 % 64) := by rw [ex_2]; first | done | (exact pk_andN (by omega) 6 (by decide))
  refine lv_lshl hx hb d_Re_leave_15 rfl ?_
  refine lv_ldc2 (own := "PatchStore$Repository") hx hb hown (hts _ gw_866) d_Re_leave_16 ?_
  refine lv_lxor hx hb d_Re_leave_19 ?_
  refine lv_land hx hb d_Re_leave_20 ?_
  refine va_last hx hb hK hP hD hS 1 2 rfl rfl (vp_in_nI (by omega) (by omega)) d_Re_leave_21 (fun H locs hP hD hS => ?_)
  rw [show (nI (n0 / 64)).toNatClampNeg = (n0 / 64) from nI_clamp (by omega)] at hP hD
  have hP : va_P (dC, dI) classes [(h, .inr (7, [.ref mb, rr_digest, .int (nI zz), .int (nI vv), rr_digestVersion])), (mb, .inl (cL, 8, .inr (.inl (vp_updL mw (n0 / 64) ((mw (n0 / 64)) &&& ((1 <<< ((nI (n0 % 64) : Int32).toInt64 &&& 63)) ^^^ (-1)))))))] H := hP
  have hD : va_D A [(h, .inr (7, [.ref mb, rr_digest, .int (nI zz), .int (nI vv), rr_digestVersion])), (mb, .inl (cL, 8, .inr (.inl (vp_updL mw (n0 / 64) ((mw (n0 / 64)) &&& ((1 <<< ((nI (n0 % 64) : Int32).toInt64 &&& 63)) ^^^ (-1)))))))] := hD
  refine lv_aload_n hx hb d_Re_leave_22 rfl (lv_at hl 0 rfl) ?_
  refine lv_dup hx hb d_Re_leave_23 rfl ?_
  refine va_get (D := (dC, dI)) (ci := 7) (v := .int (nI zz)) (C := R_Re) (T := F_Re) (N := 5) hx hb hts i_Re hown hK hP 0 rfl rfl 2 (by decide) (hts _ gw_531) (fun _ h9 => h9) rfl d_Re_leave_24 ?_
  refine lv_iconst (v := 1) hx hb d_Re_leave_27 (by decide) ?_
  refine lv_isub hx hb d_Re_leave_28 ?_
  refine lv_topi (fun x_3 ex_3 => ?_)
  obtain rfl : x_3 = nI (zz - 1) := by rw [ex_3]; first | done | (exact nI_subN (b := 1) hz1)
  refine va_put (D := (dC, dI)) (ci := 7) (v := .int (nI (zz - 1))) (ty := .int) (C := R_Re) (T := F_Re) (N := 5) hx hb hts i_Re t_Re t_Re_ok n_Re hown hK hP hD hS 0 rfl rfl 2 (by decide) (hts _ gw_531) (fun _ h9 => h9) rfl (by decide +kernel) rfl rfl (Nat.le_of_ble_eq_true rfl) d_Re_leave_29 (fun H locs hP hD hS => ?_)
  have hP : va_P (dC, dI) classes [(h, .inr (7, [.ref mb, rr_digest, .int (nI (zz - 1)), .int (nI vv), rr_digestVersion])), (mb, .inl (cL, 8, .inr (.inl (vp_updL mw (n0 / 64) ((mw (n0 / 64)) &&& ((1 <<< ((nI (n0 % 64) : Int32).toInt64 &&& 63)) ^^^ (-1)))))))] H := hP
  have hD : va_D A [(h, .inr (7, [.ref mb, rr_digest, .int (nI (zz - 1)), .int (nI vv), rr_digestVersion])), (mb, .inl (cL, 8, .inr (.inl (vp_updL mw (n0 / 64) ((mw (n0 / 64)) &&& ((1 <<< ((nI (n0 % 64) : Int32).toInt64 &&& 63)) ^^^ (-1)))))))] := hD
  refine lv_aload_n hx hb d_Re_leave_32 rfl (lv_at hl 0 rfl) ?_
  refine lv_dup hx hb d_Re_leave_33 rfl ?_
  refine va_get (D := (dC, dI)) (ci := 7) (v := .int (nI vv)) (C := R_Re) (T := F_Re) (N := 5) hx hb hts i_Re hown hK hP 0 rfl rfl 3 (by decide) (hts _ gw_535) (fun _ h9 => h9) rfl d_Re_leave_34 ?_
  refine lv_iconst (v := 1) hx hb d_Re_leave_37 (by decide) ?_
  refine lv_iadd hx hb d_Re_leave_38 ?_
  refine lv_topi (fun x_4 ex_4 => ?_)
  obtain rfl : x_4 = nI (vv + 1) := by rw [ex_4]; first | done | (exact nI_add _ _)
  refine va_put (D := (dC, dI)) (ci := 7) (v := .int (nI (vv + 1))) (ty := .int) (C := R_Re) (T := F_Re) (N := 5) hx hb hts i_Re t_Re t_Re_ok n_Re hown hK hP hD hS 0 rfl rfl 3 (by decide) (hts _ gw_535) (fun _ h9 => h9) rfl (by decide +kernel) rfl rfl (Nat.le_of_ble_eq_true rfl) d_Re_leave_39 (fun H locs hP hD hS => ?_)
  have hP : va_P (dC, dI) classes [(h, .inr (7, [.ref mb, rr_digest, .int (nI (zz - 1)), .int (nI (vv + 1)), rr_digestVersion])), (mb, .inl (cL, 8, .inr (.inl (vp_updL mw (n0 / 64) ((mw (n0 / 64)) &&& ((1 <<< ((nI (n0 % 64) : Int32).toInt64 &&& 63)) ^^^ (-1)))))))] H := hP
  have hD : va_D A [(h, .inr (7, [.ref mb, rr_digest, .int (nI (zz - 1)), .int (nI (vv + 1)), rr_digestVersion])), (mb, .inl (cL, 8, .inr (.inl (vp_updL mw (n0 / 64) ((mw (n0 / 64)) &&& ((1 <<< ((nI (n0 % 64) : Int32).toInt64 &&& 63)) ^^^ (-1)))))))] := hD
  exact W.vret hx hb hr (fun t ht hW => ⟨⟨(), rfl, trivial, by rw [ht]; exact hP, va_K.moved hW.alike hK, hD⟩, hS.F ht⟩) hS.2.2 d_Re_leave_42
end
section
/-! 67.rows.lean.txt -/
def y_Re_holdsAll : MethodName := ⟨"PatchStore$Repository", "holdsAll", "([JI)Z"⟩
abbrev c_Re_holdsAll : Cond := (Jvm.Cond.code ({ cls := "PatchStore$Repository", name := "holdsAll", desc := "([JI)Z" } : Jvm.MethodName) prog_8_method_3_code (4 : Nat) (Option.some Jvm.ClassFile.FieldType.boolean))
abbrev ws_Re_holdsAll : List Cond := c_Re_holdsAll :: xg_1
theorem d_Re_holdsAll_0 : decode prog_8_method_3_code 0 = .ok (.iconst 0, 1) := by decide +kernel
theorem d_Re_holdsAll_1 : decode prog_8_method_3_code 1 = .ok (.istore_n 3, 1) := by decide +kernel
theorem d_Re_holdsAll_2 : decode prog_8_method_3_code 2 = .ok (.iload_n 3, 1) := by decide +kernel
theorem d_Re_holdsAll_3 : decode prog_8_method_3_code 3 = .ok (.bipush 8, 2) := by decide +kernel
theorem d_Re_holdsAll_5 : decode prog_8_method_3_code 5 = .ok (.if_icmp .ge 35, 3) := by decide +kernel
theorem d_Re_holdsAll_8 : decode prog_8_method_3_code 8 = .ok (.aload_n 1, 1) := by decide +kernel
theorem d_Re_holdsAll_9 : decode prog_8_method_3_code 9 = .ok (.iload_n 2, 1) := by decide +kernel
theorem d_Re_holdsAll_10 : decode prog_8_method_3_code 10 = .ok (.bipush 8, 2) := by decide +kernel
theorem d_Re_holdsAll_12 : decode prog_8_method_3_code 12 = .ok (.imul, 1) := by decide +kernel
theorem d_Re_holdsAll_13 : decode prog_8_method_3_code 13 = .ok (.iload_n 3, 1) := by decide +kernel
theorem d_Re_holdsAll_14 : decode prog_8_method_3_code 14 = .ok (.iadd, 1) := by decide +kernel
theorem d_Re_holdsAll_15 : decode prog_8_method_3_code 15 = .ok (.laload, 1) := by decide +kernel
theorem d_Re_holdsAll_16 : decode prog_8_method_3_code 16 = .ok (.aload_n 0, 1) := by decide +kernel
theorem d_Re_holdsAll_17 : decode prog_8_method_3_code 17 = .ok (.getfield 9, 3) := by decide +kernel
theorem d_Re_holdsAll_20 : decode prog_8_method_3_code 20 = .ok (.iload_n 3, 1) := by decide +kernel
theorem d_Re_holdsAll_21 : decode prog_8_method_3_code 21 = .ok (.laload, 1) := by decide +kernel
theorem d_Re_holdsAll_22 : decode prog_8_method_3_code 22 = .ok (.ldc2_w 23, 3) := by decide +kernel
theorem d_Re_holdsAll_25 : decode prog_8_method_3_code 25 = .ok (.lxor, 1) := by decide +kernel
theorem d_Re_holdsAll_26 : decode prog_8_method_3_code 26 = .ok (.land, 1) := by decide +kernel
theorem d_Re_holdsAll_27 : decode prog_8_method_3_code 27 = .ok (.lconst 0, 1) := by decide +kernel
theorem d_Re_holdsAll_28 : decode prog_8_method_3_code 28 = .ok (.lcmp, 1) := by decide +kernel
theorem d_Re_holdsAll_29 : decode prog_8_method_3_code 29 = .ok (.ifCond .eq 5, 3) := by decide +kernel
theorem d_Re_holdsAll_32 : decode prog_8_method_3_code 32 = .ok (.iconst 0, 1) := by decide +kernel
theorem d_Re_holdsAll_33 : decode prog_8_method_3_code 33 = .ok (.ireturn, 1) := by decide +kernel
theorem d_Re_holdsAll_34 : decode prog_8_method_3_code 34 = .ok (.iinc 3 1, 3) := by decide +kernel
theorem d_Re_holdsAll_37 : decode prog_8_method_3_code 37 = .ok (.goto (-35), 3) := by decide +kernel
theorem d_Re_holdsAll_40 : decode prog_8_method_3_code 40 = .ok (.iconst 1, 1) := by decide +kernel
theorem d_Re_holdsAll_41 : decode prog_8_method_3_code 41 = .ok (.ireturn, 1) := by decide +kernel
def y_St_leans : MethodName := ⟨"PatchStore$Stock", "leans", "(II)Z"⟩
abbrev c_St_leans : Cond := (Jvm.Cond.code ({ cls := "PatchStore$Stock", name := "leans", desc := "(II)Z" } : Jvm.MethodName) prog_10_method_16_code (3 : Nat) (Option.some Jvm.ClassFile.FieldType.boolean))
abbrev ws_St_leans : List Cond := c_St_leans :: xg_1
theorem d_St_leans_0 : decode prog_10_method_16_code 0 = .ok (.aload_n 0, 1) := by decide +kernel
theorem d_St_leans_1 : decode prog_10_method_16_code 1 = .ok (.getfield 35, 3) := by decide +kernel
theorem d_St_leans_4 : decode prog_10_method_16_code 4 = .ok (.iload_n 1, 1) := by decide +kernel
theorem d_St_leans_5 : decode prog_10_method_16_code 5 = .ok (.bipush 8, 2) := by decide +kernel
theorem d_St_leans_7 : decode prog_10_method_16_code 7 = .ok (.imul, 1) := by decide +kernel
theorem d_St_leans_8 : decode prog_10_method_16_code 8 = .ok (.iload_n 2, 1) := by decide +kernel
theorem d_St_leans_9 : decode prog_10_method_16_code 9 = .ok (.bipush 6, 2) := by decide +kernel
theorem d_St_leans_11 : decode prog_10_method_16_code 11 = .ok (.ishr, 1) := by decide +kernel
theorem d_St_leans_12 : decode prog_10_method_16_code 12 = .ok (.iadd, 1) := by decide +kernel
theorem d_St_leans_13 : decode prog_10_method_16_code 13 = .ok (.laload, 1) := by decide +kernel
theorem d_St_leans_14 : decode prog_10_method_16_code 14 = .ok (.iload_n 2, 1) := by decide +kernel
theorem d_St_leans_15 : decode prog_10_method_16_code 15 = .ok (.bipush 63, 2) := by decide +kernel
theorem d_St_leans_17 : decode prog_10_method_16_code 17 = .ok (.iand, 1) := by decide +kernel
theorem d_St_leans_18 : decode prog_10_method_16_code 18 = .ok (.lshr, 1) := by decide +kernel
theorem d_St_leans_19 : decode prog_10_method_16_code 19 = .ok (.lconst 1, 1) := by decide +kernel
theorem d_St_leans_20 : decode prog_10_method_16_code 20 = .ok (.land, 1) := by decide +kernel
theorem d_St_leans_21 : decode prog_10_method_16_code 21 = .ok (.lconst 0, 1) := by decide +kernel
theorem d_St_leans_22 : decode prog_10_method_16_code 22 = .ok (.lcmp, 1) := by decide +kernel
theorem d_St_leans_23 : decode prog_10_method_16_code 23 = .ok (.ifCond .eq 7, 3) := by decide +kernel
theorem d_St_leans_26 : decode prog_10_method_16_code 26 = .ok (.iconst 1, 1) := by decide +kernel
theorem d_St_leans_27 : decode prog_10_method_16_code 27 = .ok (.goto 4, 3) := by decide +kernel
theorem d_St_leans_30 : decode prog_10_method_16_code 30 = .ok (.iconst 0, 1) := by decide +kernel
theorem d_St_leans_31 : decode prog_10_method_16_code 31 = .ok (.ireturn, 1) := by decide +kernel
/-- bit n of the row that begins at word o -/
def btr (w : Nat → Int64) (o n : Nat) : Bool := (w (o + n / 64)).toBitVec.getLsbD (n % 64)
theorem bt_sub (x y : Int64) : lg_cmp (x &&& (y ^^^ (-1))) 0 = 0 ↔ ∀ i, i < 64 → x.toBitVec.getLsbD i = true → y.toBitVec.getLsbD i = true := by
  rw [lg_cmp_eq, ← Int64.toBitVec_inj, Int64.toBitVec_and, Int64.toBitVec_xor, show (-1 : Int64).toBitVec = BitVec.allOnes 64 from by decide, show (0 : Int64).toBitVec = 0#64 from by decide]
  constructor
  · intro h i hi hx
    have this : (x.toBitVec &&& (y.toBitVec ^^^ BitVec.allOnes 64)).getLsbD i = (0#64).getLsbD i := by rw [h]
    simp only [BitVec.getLsbD_and, BitVec.getLsbD_xor, BitVec.getLsbD_allOnes, hi, decide_true, Bool.xor_true, BitVec.getLsbD_zero, hx, Bool.true_and] at this
    cases hy : y.toBitVec.getLsbD i with
    | false => rw [hy] at this; cases this
    | true => rfl
  · intro h
    apply BitVec.eq_of_getLsbD_eq
    intro i hi
    simp only [BitVec.getLsbD_and, BitVec.getLsbD_xor, BitVec.getLsbD_allOnes, hi, decide_true, Bool.xor_true, BitVec.getLsbD_zero]
    cases hx : x.toBitVec.getLsbD i with
    | false => rfl
    | true => rw [h i hi hx]; rfl
/-- every bit of the row is in the set -/
def rowIn (w mw : Nat → Int64) (o : Nat) : Prop := ∀ n, n < 512 → btr w o n = true → bt mw n = true
theorem rowIn_of {w mw : Nat → Int64} {o : Nat} : rowIn w mw o ↔ ∀ i, i < 8 → lg_cmp (w (o + i) &&& (mw i ^^^ (-1))) 0 = 0 := by
  constructor
  · intro h i hi
    rw [bt_sub]
    intro j hj hx
    have := h (64 * i + j) (by omega)
    unfold btr bt at this
    rw [show (64 * i + j) / 64 = i by omega, show (64 * i + j) % 64 = j by omega] at this
    exact this hx
  · intro h n hn hx
    exact (bt_sub _ _).mp (h (n / 64) (by omega)) (n % 64) (Nat.mod_lt _ (by decide)) hx
set_option maxHeartbeats 4000000 in
set_option maxRecDepth 100000 in
/-- whether a row is in the set -/
theorem m_Re_holdsAll (l : Launch) (dC : Nat → ClassId) (dI : Nat → Nat → Nat) (cI cB cL cZ cR : ClassId) (h mb ro : Nat) (rr_digest rr_size rr_version rr_digestVersion : Value) (mw rw9 : Nat → Int64) (pp : Nat) (sz : Nat) (hpp : pp < 500) : Met l y_Re_holdsAll ws_Re_holdsAll ({ frames := 0, cells := 0, slots := 0, locals := 0 }) (xw_Pc dC dI [(cI, .int), (cB, .byte), (cL, .long), (cZ, .boolean), (cR, .object "PatchStore$Repository")] [.ref h, .ref ro, .int (nI pp)] [(h, .inr (7, [.ref mb, rr_digest, rr_size, rr_version, rr_digestVersion])), (mb, .inl (cL, 8, .inr (.inl mw))), (ro, .inl (cL, 4000, .inr (.inl rw9)))] sz) (va_Qi (fun (r : Int32) (_ : Unit) => (r = 1 ∧ rowIn rw9 mw (pp * 8)) ∨ (r = 0 ∧ ¬ rowIn rw9 mw (pp * 8))) (fun _ t => xw_B dC dI [(cI, .int), (cB, .byte), (cL, .long), (cZ, .boolean), (cR, .object "PatchStore$Repository")] (va_A [(h, .inr (7, [.ref mb, rr_digest, rr_size, rr_version, rr_digestVersion])), (mb, .inl (cL, 8, .inr (.inl mw))), (ro, .inl (cL, 4000, .inr (.inl rw9)))] sz) [(h, .inr (7, [.ref mb, rr_digest, rr_size, rr_version, rr_digestVersion])), (mb, .inl (cL, 8, .inr (.inl mw))), (ro, .inl (cL, 4000, .inr (.inl rw9)))] t) (va_A [(h, .inr (7, [.ref mb, rr_digest, rr_size, rr_version, rr_digestVersion])), (mb, .inl (cL, 8, .inr (.inl mw))), (ro, .inl (cL, 4000, .inr (.inl rw9)))] sz)) 0 0 (va_A [(h, .inr (7, [.ref mb, rr_digest, rr_size, rr_version, rr_digestVersion])), (mb, .inl (cL, 8, .inr (.inl mw))), (ro, .inl (cL, 4000, .inr (.inl rw9)))] sz) := by
  refine Met.ofW (cc := prog_8_method_3_code) (maxL := 4) (ret := (Option.some Jvm.ClassFile.FieldType.boolean)) (by decide) rfl ?_
  intro p e s m args below meth c s₁ B hml hv
  obtain ⟨rfl, hsz, hP, hK, hD0⟩ := hv
  have hx := B.exec
  have hb := B.bytes
  have hr := B.returns
  have hts0 := atoms_spec (ws := ws_Re_holdsAll) B.pre
  have hts : ∀ w ∈ xg_1, w.before _ s = true := fun w h => hts0 w (List.mem_cons_of_mem _ h)
  have hown : s.vm.findClass "PatchStore$Repository" = some m.cls := findClass_of_methodNamed B.named
  have hlocks := B.notSynchronized
  subst hsz
  have hD := hD0.self (sz := s.heap.size)
  generalize hAe : va_A [(h, .inr (7, [.ref mb, rr_digest, rr_size, rr_version, rr_digestVersion])), (mb, .inl (cL, 8, .inr (.inl mw))), (ro, .inl (cL, 4000, .inr (.inl rw9)))] s.heap.size = A at hD ⊢
  have hA : ∀ q : Nat, s.heap.size ≤ q → A q := fun q h => by rw [← hAe]; exact Or.inr h
  have hS : va_S A s.heap s.heap [] := va_S.rf
  have hl := lv_entry ([.ref h, .ref ro, .int (nI pp)]) (n := 4) (Nat.le_of_ble_eq_true rfl)
  rw [lg_entry_eq]
  generalize (lg_sl ([.ref h, .ref ro, .int (nI pp)]) ++ List.replicate (4 - (lg_sl ([.ref h, .ref ro, .int (nI pp)])).length) Slot.unset).toArray = ls at hl ⊢
  have hl : lv_has ls 4 [(0, .ref h), (1, .ref ro), (2, .int (nI pp))] := hl
  generalize hQe : MQ _ _ _ _ _ _ _ = Q
  refine lv_iconst (v := 0) hx hb d_Re_holdsAll_0 (by decide) ?_
  refine lv_istore_n (lv' := [(3, .int 0), (0, .ref h), (1, .ref ro), (2, .int (nI pp))]) hx hb d_Re_holdsAll_1 rfl hl (by decide) rfl (fun ls hl => ?_)
  have loop_2 : ∀ (n9 : Nat) (i : Nat) (H : Heap) (locs : List Loc) (ls : Array Slot), 8 - i < n9 → (i ≤ 8) → (∀ j, j < i → lg_cmp (rw9 (pp * 8 + j) &&& (mw j ^^^ (-1))) 0 = 0) → va_P (dC, dI) classes [(h, .inr (7, [.ref mb, rr_digest, rr_size, rr_version, rr_digestVersion])), (mb, .inl (cL, 8, .inr (.inl mw))), (ro, .inl (cL, 4000, .inr (.inl rw9)))] H → va_D A [(h, .inr (7, [.ref mb, rr_digest, rr_size, rr_version, rr_digestVersion])), (mb, .inl (cL, 8, .inr (.inl mw))), (ro, .inl (cL, 4000, .inr (.inl rw9)))] → va_S A s.heap H locs → lv_has ls 4 [(0, .ref h), (1, .ref ro), (2, .int (nI pp)), (3, .int (nI i))] → W p l e (headSpec ws_Re_holdsAll ({ frames := 0, cells := 0, slots := 0, locals := 0 })).room s m ([.ref h, .ref ro, .int (nI pp)] : List Value).toArray below meth c H locs 0 0 Q (F0 m 2 ls []) := by
    intro n9
    induction n9 with
    | zero => intro i H locs ls hm; exact absurd hm (Nat.not_lt_zero _)
    | succ n9 ih_2 =>
      intro i H locs ls hm hi hq hP hD hS hl
      refine lv_iload_n hx hb d_Re_holdsAll_2 rfl (lv_at hl 3 rfl) ?_
      refine lv_bipush (v := 8) hx hb d_Re_holdsAll_3 (by decide) ?_
      refine lv_icmp_ge (tgt := 40) hx hb d_Re_holdsAll_5 (by decide) (fun c_5 => ?_) (fun c_5 => ?_)
      · have n_5 : 8 ≤ i := (nI_leI (a := 8) (b := i) (by omega) (by omega)).mp c_5
        refine lv_iconst (v := 1) hx hb d_Re_holdsAll_40 (by decide) ?_
        rw [← hQe]
        exact W.zret (v := 1) hx hb hr nz_b1 (fun t ht hW => ⟨⟨_, (), rfl, Or.inl ⟨rfl, rowIn_of.mpr (fun j z => hq j (by omega))⟩, by rw [ht]; exact hP, va_K.moved hW.alike hK, hD⟩, hS.F ht⟩) hS.2.2 d_Re_holdsAll_41
      · have n_5 : i < 8 := Nat.lt_of_not_le (fun z => c_5 ((nI_leI (a := 8) (b := i) (by omega) (by omega)).mpr z))
        refine lv_aload_n hx hb d_Re_holdsAll_8 rfl (lv_at hl 1 rfl) ?_
        refine lv_iload_n hx hb d_Re_holdsAll_9 rfl (lv_at hl 2 rfl) ?_
        refine lv_bipush (v := 8) hx hb d_Re_holdsAll_10 (by decide) ?_
        refine lv_imul hx hb d_Re_holdsAll_12 ?_
        refine lv_topi (fun x_1 ex_1 => ?_)
        obtain rfl : x_1 = nI (pp * 8) := by rw [ex_1]; first | done | (exact nI_mul _ _)
        refine lv_iload_n hx hb d_Re_holdsAll_13 rfl (lv_at hl 3 rfl) ?_
        refine lv_iadd hx hb d_Re_holdsAll_14 ?_
        refine lv_topi (fun x_2 ex_2 => ?_)
        obtain rfl : x_2 = nI ((pp * 8) + i) := by rw [ex_2]; first | done | (exact nI_add _ _)
        refine va_lald hx hb hK hP 2 2 rfl rfl (vp_in_nI (by omega) (by omega)) d_Re_holdsAll_15 ?_
        rw [show (nI ((pp * 8) + i)).toNatClampNeg = ((pp * 8) + i) from nI_clamp (by omega)]
        refine lv_aload_n hx hb d_Re_holdsAll_16 rfl (lv_at hl 0 rfl) ?_
        refine va_get (D := (dC, dI)) (ci := 7) (v := .ref mb) (C := R_Re) (T := F_Re) (N := 5) hx hb hts i_Re hown hK hP 0 rfl rfl 0 (by decide) (hts _ gw_527) (fun _ h9 => h9) rfl d_Re_holdsAll_17 ?_
        refine lv_iload_n hx hb d_Re_holdsAll_20 rfl (lv_at hl 3 rfl) ?_
        refine va_lald hx hb hK hP 1 2 rfl rfl (vp_in_nI (by omega) (by omega)) d_Re_holdsAll_21 ?_
        rw [show (nI i).toNatClampNeg = i from nI_clamp (by omega)]
        refine lv_ldc2 (own := "PatchStore$Repository") hx hb hown (hts _ gw_866) d_Re_holdsAll_22 ?_
        refine lv_lxor hx hb d_Re_holdsAll_25 ?_
        refine lv_land hx hb d_Re_holdsAll_26 ?_
        refine lv_lconst (v := 0) hx hb d_Re_holdsAll_27 (by decide) ?_
        refine W.lcmp hx hb d_Re_holdsAll_28 ?_
        refine lv_if_eq (tgt := 34) hx hb d_Re_holdsAll_29 (by decide) (fun c_29 => ?_) (fun c_29 => ?_)
        · refine lv_iinc (v := nI (i + 1)) (lv' := [(3, .int (nI (i + 1))), (0, .ref h), (1, .ref ro), (2, .int (nI pp))]) hx hb d_Re_holdsAll_34 hl (k := 3) rfl (by exact nI_add _ _) (by decide) rfl (fun ls hl => ?_)
          refine lv_goto (tgt := 2) hx hb d_Re_holdsAll_37 (by decide) ?_
          exact ih_2 (i + 1) _ _ _ (by omega) (by omega) (fun j z => if h9 : j = i then h9 ▸ c_29 else hq j (by omega)) hP hD hS (lv_sub hl [1, 2, 3, 0] rfl)
        · refine lv_iconst (v := 0) hx hb d_Re_holdsAll_32 (by decide) ?_
          rw [← hQe]
          exact W.zret (v := 0) hx hb hr nz_b0 (fun t ht hW => ⟨⟨_, (), rfl, Or.inr ⟨rfl, fun z => c_29 (rowIn_of.mp z i n_5)⟩, by rw [ht]; exact hP, va_K.moved hW.alike hK, hD⟩, hS.F ht⟩) hS.2.2 d_Re_holdsAll_33
  exact loop_2 _ 0 _ _ _ (Nat.lt_succ_self _) (Nat.zero_le _) (fun j z => absurd z (Nat.not_lt_zero _)) hP hD hS (lv_sub hl [1, 2, 3, 0] rfl)
set_option maxHeartbeats 4000000 in
set_option maxRecDepth 100000 in
/-- whether a patch leans on another -/
theorem m_St_leans (l : Launch) (dC : Nat → ClassId) (dI : Nat → Nat → Nat) (cI cB cL cZ cR : ClassId) (h loA : Nat) (sk_bytes sk_from sk_firstDependency sk_firstChange sk_dependencies sk_hashes sk_byHash sk_leantBy sk_changes sk_lines sk_patches : Value) (low : Nat → Int64) (pp qq : Nat) (sz : Nat) (hpp : pp < 500) (hqq : qq < 512) : Met l y_St_leans ws_St_leans ({ frames := 0, cells := 0, slots := 0, locals := 0 }) (xw_Pc dC dI [(cI, .int), (cB, .byte), (cL, .long), (cZ, .boolean), (cR, .object "PatchStore$Repository")] [.ref h, .int (nI pp), .int (nI qq)] [(h, .inr (9, [sk_bytes, sk_from, sk_firstDependency, sk_firstChange, sk_dependencies, sk_hashes, sk_byHash, .ref loA, sk_leantBy, sk_changes, sk_lines, sk_patches])), (loA, .inl (cL, 4000, .inr (.inl low)))] sz) (va_Qi (fun (r : Int32) (_ : Unit) => (r = 1 ∧ btr low (pp * 8) qq = true) ∨ (r = 0 ∧ btr low (pp * 8) qq = false)) (fun _ t => xw_B dC dI [(cI, .int), (cB, .byte), (cL, .long), (cZ, .boolean), (cR, .object "PatchStore$Repository")] (va_A [(h, .inr (9, [sk_bytes, sk_from, sk_firstDependency, sk_firstChange, sk_dependencies, sk_hashes, sk_byHash, .ref loA, sk_leantBy, sk_changes, sk_lines, sk_patches])), (loA, .inl (cL, 4000, .inr (.inl low)))] sz) [(h, .inr (9, [sk_bytes, sk_from, sk_firstDependency, sk_firstChange, sk_dependencies, sk_hashes, sk_byHash, .ref loA, sk_leantBy, sk_changes, sk_lines, sk_patches])), (loA, .inl (cL, 4000, .inr (.inl low)))] t) (va_A [(h, .inr (9, [sk_bytes, sk_from, sk_firstDependency, sk_firstChange, sk_dependencies, sk_hashes, sk_byHash, .ref loA, sk_leantBy, sk_changes, sk_lines, sk_patches])), (loA, .inl (cL, 4000, .inr (.inl low)))] sz)) 0 0 (va_A [(h, .inr (9, [sk_bytes, sk_from, sk_firstDependency, sk_firstChange, sk_dependencies, sk_hashes, sk_byHash, .ref loA, sk_leantBy, sk_changes, sk_lines, sk_patches])), (loA, .inl (cL, 4000, .inr (.inl low)))] sz) := by
  refine Met.ofW (cc := prog_10_method_16_code) (maxL := 3) (ret := (Option.some Jvm.ClassFile.FieldType.boolean)) (by decide) rfl ?_
  intro p e s m args below meth c s₁ B hml hv
  obtain ⟨rfl, hsz, hP, hK, hD0⟩ := hv
  have hx := B.exec
  have hb := B.bytes
  have hr := B.returns
  have hts0 := atoms_spec (ws := ws_St_leans) B.pre
  have hts : ∀ w ∈ xg_1, w.before _ s = true := fun w h => hts0 w (List.mem_cons_of_mem _ h)
  have hown : s.vm.findClass "PatchStore$Stock" = some m.cls := findClass_of_methodNamed B.named
  have hlocks := B.notSynchronized
  subst hsz
  have hD := hD0.self (sz := s.heap.size)
  generalize hAe : va_A [(h, .inr (9, [sk_bytes, sk_from, sk_firstDependency, sk_firstChange, sk_dependencies, sk_hashes, sk_byHash, .ref loA, sk_leantBy, sk_changes, sk_lines, sk_patches])), (loA, .inl (cL, 4000, .inr (.inl low)))] s.heap.size = A at hD ⊢
  have hA : ∀ q : Nat, s.heap.size ≤ q → A q := fun q h => by rw [← hAe]; exact Or.inr h
  have hS : va_S A s.heap s.heap [] := va_S.rf
  have hl := lv_entry ([.ref h, .int (nI pp), .int (nI qq)]) (n := 3) (Nat.le_of_ble_eq_true rfl)
  rw [lg_entry_eq]
  generalize (lg_sl ([.ref h, .int (nI pp), .int (nI qq)]) ++ List.replicate (3 - (lg_sl ([.ref h, .int (nI pp), .int (nI qq)])).length) Slot.unset).toArray = ls at hl ⊢
  have hl : lv_has ls 3 [(0, .ref h), (1, .int (nI pp)), (2, .int (nI qq))] := hl
  refine lv_aload_n hx hb d_St_leans_0 rfl (lv_at hl 0 rfl) ?_
  refine va_get (D := (dC, dI)) (ci := 9) (v := .ref loA) (C := R_St) (T := F_St) (N := 12) hx hb hts i_St hown hK hP 0 rfl rfl 7 (by decide) (hts _ gw_214) (fun _ h9 => h9) rfl d_St_leans_1 ?_
  refine lv_iload_n hx hb d_St_leans_4 rfl (lv_at hl 1 rfl) ?_
  refine lv_bipush (v := 8) hx hb d_St_leans_5 (by decide) ?_
  refine lv_imul hx hb d_St_leans_7 ?_
  refine lv_topi (fun x_1 ex_1 => ?_)
  obtain rfl : x_1 = nI (pp * 8) := by rw [ex_1]; first | done | (exact nI_mul _ _)
  refine lv_iload_n hx hb d_St_leans_8 rfl (lv_at hl 2 rfl) ?_
  refine lv_bipush (v := 6) hx hb d_St_leans_9 (by decide) ?_
  refine lv_ishr hx hb d_St_leans_11 ?_
  refine lv_topi (fun x_2 ex_2 => ?_)
  obtain rfl : x_2 = nI (qq / 64) := by rw [ex_2]; first | done | (exact pk_shrN (by omega) _ 6 (by decide))
  refine lv_iadd hx hb d_St_leans_12 ?_
  refine lv_topi (fun x_3 ex_3 => ?_)
  obtain rfl : x_3 = nI ((pp * 8) + (qq / 64)) := by rw [ex_3]; first | done | (exact nI_add _ _)
  refine va_lald hx hb hK hP 1 2 rfl rfl (vp_in_nI (by omega) (by omega)) d_St_leans_13 ?_
  rw [show (nI ((pp * 8) + (qq / 64))).toNatClampNeg = ((pp * 8) + (qq / 64)) from nI_clamp (by omega)]
  refine lv_iload_n hx hb d_St_leans_14 rfl (lv_at hl 2 rfl) ?_
  refine lv_bipush (v := 63) hx hb d_St_leans_15 (by decide) ?_
  refine lv_iand hx hb d_St_leans_17 ?_
  refine lv_topi (fun x_4 ex_4 => ?_)
  obtain rfl : x_4 = nI (qq % 64) := by rw [ex_4]; first | done | (exact pk_andN (by omega) 6 (by decide))
  refine lv_lshr hx hb d_St_leans_18 rfl ?_
  refine lv_lconst (v := 1) hx hb d_St_leans_19 (by decide) ?_
  refine lv_land hx hb d_St_leans_20 ?_
  refine lv_lconst (v := 0) hx hb d_St_leans_21 (by decide) ?_
  refine W.lcmp hx hb d_St_leans_22 ?_
  refine lv_if_eq (tgt := 30) hx hb d_St_leans_23 (by decide) (fun c_23 => ?_) (fun c_23 => ?_)
  · refine lv_iconst (v := 0) hx hb d_St_leans_30 (by decide) ?_
    exact W.zret (v := 0) hx hb hr nz_b0 (fun t ht hW => ⟨⟨_, (), rfl, Or.inr ⟨rfl, (bt_get _ _ (Nat.mod_lt _ (by decide))).mp c_23⟩, by rw [ht]; exact hP, va_K.moved hW.alike hK, hD⟩, hS.F ht⟩) hS.2.2 d_St_leans_31
  · refine lv_iconst (v := 1) hx hb d_St_leans_26 (by decide) ?_
    refine lv_goto (tgt := 31) hx hb d_St_leans_27 (by decide) ?_
    exact W.zret (v := 1) hx hb hr nz_b1 (fun t ht hW => ⟨⟨_, (), rfl, Or.inl ⟨rfl, eq_true_of_ne_false (fun z => c_23 ((bt_get _ _ (Nat.mod_lt _ (by decide))).mpr z))⟩, by rw [ht]; exact hP, va_K.moved hW.alike hK, hD⟩, hS.F ht⟩) hS.2.2 d_St_leans_31
end
