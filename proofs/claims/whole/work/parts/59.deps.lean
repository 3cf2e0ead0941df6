/-! 59.deps.lean.txt -/
theorem gw_184 : (Jvm.Cond.fieldLink "PatchStore$Intake" (98 : Nat) "PatchStore$Stock" "bytes" "[B") ∈ xg_1 := xg_s1 184 rfl rfl
theorem gw_191 : (Jvm.Cond.fieldLink "PatchStore$Intake" (88 : Nat) "PatchStore$Stock" "from" "[I") ∈ xg_1 := xg_s1 191 rfl rfl
theorem gw_195 : (Jvm.Cond.fieldLink "PatchStore$Intake" (95 : Nat) "PatchStore$Stock" "firstDependency" "[I") ∈ xg_1 := xg_s1 195 rfl rfl
theorem gw_203 : (Jvm.Cond.fieldLink "PatchStore$Intake" (110 : Nat) "PatchStore$Stock" "dependencies" "[I") ∈ xg_1 := xg_s1 203 rfl rfl
theorem gw_238 : (Jvm.Cond.fieldLink "PatchStore$Intake" (84 : Nat) "PatchStore$Stock" "patches" "I") ∈ xg_1 := xg_s1 238 rfl rfl
theorem gw_815 : (Jvm.Cond.methodLink "PatchStore$Intake" (91 : Nat) ({ cls := "PatchStore$Stock", name := "two", desc := "(I)I" } : Jvm.MethodName)) ∈ xg_1 := xg_s4 95 rfl rfl
theorem gw_816 : (Jvm.Cond.methodLink "PatchStore$Intake" (102 : Nat) ({ cls := "PatchStore$Stock", name := "patchWith", desc := "([BI)I" } : Jvm.MethodName)) ∈ xg_1 := xg_s4 96 rfl rfl
theorem gw_817 : (Jvm.Cond.instanceMethod ({ cls := "PatchStore$Stock", name := "patchWith", desc := "([BI)I" } : Jvm.MethodName)) ∈ xg_1 := xg_s4 97 rfl rfl
theorem gw_818 : (Jvm.Cond.selects "PatchStore$Stock" ({ cls := "PatchStore$Stock", name := "patchWith", desc := "([BI)I" } : Jvm.MethodName) ({ cls := "PatchStore$Stock", name := "patchWith", desc := "([BI)I" } : Jvm.MethodName)) ∈ xg_1 := xg_s4 98 rfl rfl
theorem gw_819 : (Jvm.Cond.code ({ cls := "PatchStore$Stock", name := "patchWith", desc := "([BI)I" } : Jvm.MethodName) prog_10_method_14_code (4 : Nat) (Option.some Jvm.ClassFile.FieldType.int)) ∈ xg_1 := xg_s4 99 rfl rfl
theorem gw_825 : (Jvm.Cond.methodLink "PatchStore$Intake" (106 : Nat) ({ cls := "PatchStore$Repository", name := "holds", desc := "(I)Z" } : Jvm.MethodName)) ∈ xg_1 := xg_s4 105 rfl rfl
def y_In_findDependencies : MethodName := ⟨"PatchStore$Intake", "findDependencies", "(LPatchStore$Repository;)Z"⟩
abbrev c_In_findDependencies : Cond := (Jvm.Cond.code ({ cls := "PatchStore$Intake", name := "findDependencies", desc := "(LPatchStore$Repository;)Z" } : Jvm.MethodName) prog_4_method_3_code (7 : Nat) (Option.some Jvm.ClassFile.FieldType.boolean))
abbrev ws_In_findDependencies : List Cond := c_In_findDependencies :: xg_1
theorem d_In_findDependencies_0 : decode prog_4_method_3_code 0 = .ok (.aload_n 0, 1) := by decide +kernel
theorem d_In_findDependencies_1 : decode prog_4_method_3_code 1 = .ok (.getfield 18, 3) := by decide +kernel
theorem d_In_findDependencies_4 : decode prog_4_method_3_code 4 = .ok (.getfield 88, 3) := by decide +kernel
theorem d_In_findDependencies_7 : decode prog_4_method_3_code 7 = .ok (.aload_n 0, 1) := by decide +kernel
theorem d_In_findDependencies_8 : decode prog_4_method_3_code 8 = .ok (.getfield 18, 3) := by decide +kernel
theorem d_In_findDependencies_11 : decode prog_4_method_3_code 11 = .ok (.getfield 84, 3) := by decide +kernel
theorem d_In_findDependencies_14 : decode prog_4_method_3_code 14 = .ok (.iaload, 1) := by decide +kernel
theorem d_In_findDependencies_15 : decode prog_4_method_3_code 15 = .ok (.istore_n 2, 1) := by decide +kernel
theorem d_In_findDependencies_16 : decode prog_4_method_3_code 16 = .ok (.aload_n 0, 1) := by decide +kernel
theorem d_In_findDependencies_17 : decode prog_4_method_3_code 17 = .ok (.getfield 18, 3) := by decide +kernel
theorem d_In_findDependencies_20 : decode prog_4_method_3_code 20 = .ok (.iload_n 2, 1) := by decide +kernel
theorem d_In_findDependencies_21 : decode prog_4_method_3_code 21 = .ok (.invokevirtual 91, 3) := by decide +kernel
theorem d_In_findDependencies_24 : decode prog_4_method_3_code 24 = .ok (.istore_n 3, 1) := by decide +kernel
theorem d_In_findDependencies_25 : decode prog_4_method_3_code 25 = .ok (.aload_n 0, 1) := by decide +kernel
theorem d_In_findDependencies_26 : decode prog_4_method_3_code 26 = .ok (.getfield 18, 3) := by decide +kernel
theorem d_In_findDependencies_29 : decode prog_4_method_3_code 29 = .ok (.getfield 95, 3) := by decide +kernel
theorem d_In_findDependencies_32 : decode prog_4_method_3_code 32 = .ok (.aload_n 0, 1) := by decide +kernel
theorem d_In_findDependencies_33 : decode prog_4_method_3_code 33 = .ok (.getfield 18, 3) := by decide +kernel
theorem d_In_findDependencies_36 : decode prog_4_method_3_code 36 = .ok (.getfield 84, 3) := by decide +kernel
theorem d_In_findDependencies_39 : decode prog_4_method_3_code 39 = .ok (.iaload, 1) := by decide +kernel
theorem d_In_findDependencies_40 : decode prog_4_method_3_code 40 = .ok (.istore 4, 2) := by decide +kernel
theorem d_In_findDependencies_42 : decode prog_4_method_3_code 42 = .ok (.iconst 0, 1) := by decide +kernel
theorem d_In_findDependencies_43 : decode prog_4_method_3_code 43 = .ok (.istore 5, 2) := by decide +kernel
theorem d_In_findDependencies_45 : decode prog_4_method_3_code 45 = .ok (.iload 5, 2) := by decide +kernel
theorem d_In_findDependencies_47 : decode prog_4_method_3_code 47 = .ok (.iload_n 3, 1) := by decide +kernel
theorem d_In_findDependencies_48 : decode prog_4_method_3_code 48 = .ok (.if_icmp .ge 71, 3) := by decide +kernel
theorem d_In_findDependencies_51 : decode prog_4_method_3_code 51 = .ok (.aload_n 0, 1) := by decide +kernel
theorem d_In_findDependencies_52 : decode prog_4_method_3_code 52 = .ok (.getfield 18, 3) := by decide +kernel
theorem d_In_findDependencies_55 : decode prog_4_method_3_code 55 = .ok (.aload_n 0, 1) := by decide +kernel
theorem d_In_findDependencies_56 : decode prog_4_method_3_code 56 = .ok (.getfield 18, 3) := by decide +kernel
theorem d_In_findDependencies_59 : decode prog_4_method_3_code 59 = .ok (.getfield 98, 3) := by decide +kernel
theorem d_In_findDependencies_62 : decode prog_4_method_3_code 62 = .ok (.iload_n 2, 1) := by decide +kernel
theorem d_In_findDependencies_63 : decode prog_4_method_3_code 63 = .ok (.iconst 2, 1) := by decide +kernel
theorem d_In_findDependencies_64 : decode prog_4_method_3_code 64 = .ok (.iadd, 1) := by decide +kernel
theorem d_In_findDependencies_65 : decode prog_4_method_3_code 65 = .ok (.iload 5, 2) := by decide +kernel
theorem d_In_findDependencies_67 : decode prog_4_method_3_code 67 = .ok (.bipush 32, 2) := by decide +kernel
theorem d_In_findDependencies_69 : decode prog_4_method_3_code 69 = .ok (.imul, 1) := by decide +kernel
theorem d_In_findDependencies_70 : decode prog_4_method_3_code 70 = .ok (.iadd, 1) := by decide +kernel
theorem d_In_findDependencies_71 : decode prog_4_method_3_code 71 = .ok (.invokevirtual 102, 3) := by decide +kernel
theorem d_In_findDependencies_74 : decode prog_4_method_3_code 74 = .ok (.istore 6, 2) := by decide +kernel
theorem d_In_findDependencies_76 : decode prog_4_method_3_code 76 = .ok (.aload_n 1, 1) := by decide +kernel
theorem d_In_findDependencies_77 : decode prog_4_method_3_code 77 = .ok (.iload 6, 2) := by decide +kernel
theorem d_In_findDependencies_79 : decode prog_4_method_3_code 79 = .ok (.invokevirtual 106, 3) := by decide +kernel
theorem d_In_findDependencies_82 : decode prog_4_method_3_code 82 = .ok (.ifCond .eq 14, 3) := by decide +kernel
theorem d_In_findDependencies_85 : decode prog_4_method_3_code 85 = .ok (.iload 4, 2) := by decide +kernel
theorem d_In_findDependencies_87 : decode prog_4_method_3_code 87 = .ok (.iload 5, 2) := by decide +kernel
theorem d_In_findDependencies_89 : decode prog_4_method_3_code 89 = .ok (.iadd, 1) := by decide +kernel
theorem d_In_findDependencies_90 : decode prog_4_method_3_code 90 = .ok (.sipush 8400, 3) := by decide +kernel
theorem d_In_findDependencies_93 : decode prog_4_method_3_code 93 = .ok (.if_icmp .lt 5, 3) := by decide +kernel
theorem d_In_findDependencies_96 : decode prog_4_method_3_code 96 = .ok (.iconst 0, 1) := by decide +kernel
theorem d_In_findDependencies_97 : decode prog_4_method_3_code 97 = .ok (.ireturn, 1) := by decide +kernel
theorem d_In_findDependencies_98 : decode prog_4_method_3_code 98 = .ok (.aload_n 0, 1) := by decide +kernel
theorem d_In_findDependencies_99 : decode prog_4_method_3_code 99 = .ok (.getfield 18, 3) := by decide +kernel
theorem d_In_findDependencies_102 : decode prog_4_method_3_code 102 = .ok (.getfield 110, 3) := by decide +kernel
theorem d_In_findDependencies_105 : decode prog_4_method_3_code 105 = .ok (.iload 4, 2) := by decide +kernel
theorem d_In_findDependencies_107 : decode prog_4_method_3_code 107 = .ok (.iload 5, 2) := by decide +kernel
theorem d_In_findDependencies_109 : decode prog_4_method_3_code 109 = .ok (.iadd, 1) := by decide +kernel
theorem d_In_findDependencies_110 : decode prog_4_method_3_code 110 = .ok (.iload 6, 2) := by decide +kernel
theorem d_In_findDependencies_112 : decode prog_4_method_3_code 112 = .ok (.iastore, 1) := by decide +kernel
theorem d_In_findDependencies_113 : decode prog_4_method_3_code 113 = .ok (.iinc 5 1, 3) := by decide +kernel
theorem d_In_findDependencies_116 : decode prog_4_method_3_code 116 = .ok (.goto (-71), 3) := by decide +kernel
theorem d_In_findDependencies_119 : decode prog_4_method_3_code 119 = .ok (.aload_n 0, 1) := by decide +kernel
theorem d_In_findDependencies_120 : decode prog_4_method_3_code 120 = .ok (.getfield 18, 3) := by decide +kernel
theorem d_In_findDependencies_123 : decode prog_4_method_3_code 123 = .ok (.getfield 95, 3) := by decide +kernel
theorem d_In_findDependencies_126 : decode prog_4_method_3_code 126 = .ok (.aload_n 0, 1) := by decide +kernel
theorem d_In_findDependencies_127 : decode prog_4_method_3_code 127 = .ok (.getfield 18, 3) := by decide +kernel
theorem d_In_findDependencies_130 : decode prog_4_method_3_code 130 = .ok (.getfield 84, 3) := by decide +kernel
theorem d_In_findDependencies_133 : decode prog_4_method_3_code 133 = .ok (.iconst 1, 1) := by decide +kernel
theorem d_In_findDependencies_134 : decode prog_4_method_3_code 134 = .ok (.iadd, 1) := by decide +kernel
theorem d_In_findDependencies_135 : decode prog_4_method_3_code 135 = .ok (.iload 4, 2) := by decide +kernel
theorem d_In_findDependencies_137 : decode prog_4_method_3_code 137 = .ok (.iload_n 3, 1) := by decide +kernel
theorem d_In_findDependencies_138 : decode prog_4_method_3_code 138 = .ok (.iadd, 1) := by decide +kernel
theorem d_In_findDependencies_139 : decode prog_4_method_3_code 139 = .ok (.iastore, 1) := by decide +kernel
theorem d_In_findDependencies_140 : decode prog_4_method_3_code 140 = .ok (.iconst 1, 1) := by decide +kernel
theorem d_In_findDependencies_141 : decode prog_4_method_3_code 141 = .ok (.ireturn, 1) := by decide +kernel
/-- q is the patch with the hash at j -/
def isP (hf : Nat → Int32) (Bh : Nat → Nat) (P : Nat) (g : Nat → Int32) (j q : Nat) : Prop := ∃ i, i < P ∧ sq hf (Bh i * 32) 32 = sq g j 32 ∧ q = Bh i
theorem isP.uniq {hf g : Nat → Int32} {Bh : Nat → Nat} {P j q1 q2 : Nat} (hu : hs_up hf Bh P) (h1 : isP hf Bh P g j q1) (h2 : isP hf Bh P g j q2) : q1 = q2 := by
  obtain ⟨i, hi, e1, rfl⟩ := h1
  obtain ⟨k, hk, e2, rfl⟩ := h2
  rcases Nat.lt_trichotomy i k with z | z | z
  · exact absurd (e2 ▸ e1 ▸ hu i k z hk) (List.lt_irrefl _)
  · rw [z]
  · exact absurd (e1 ▸ e2 ▸ hu k i z hi) (List.lt_irrefl _)
noncomputable def pQ (hf : Nat → Int32) (Bh : Nat → Nat) (P : Nat) (g : Nat → Int32) (j : Nat) : Nat := @dite _ (∃ q, isP hf Bh P g j q) (Classical.propDecidable _) (fun h => h.choose) (fun _ => 0)
theorem pQ_eq {hf g : Nat → Int32} {Bh : Nat → Nat} {P j q : Nat} (hu : hs_up hf Bh P) (h : isP hf Bh P g j q) : pQ hf Bh P g j = q := by
  unfold pQ
  rw [dif_pos ⟨q, h⟩]
  exact isP.uniq hu (Exists.choose_spec (⟨q, h⟩ : ∃ q, isP hf Bh P g j q)) h
theorem re_m1 {mw : Nat → Int64} : ¬ re_ok mw (-1) := by
  rintro ⟨n, hn, e, -⟩
  exact nI_nm1 (by omega) e
/-- the k-th dependency is a patch of the set -/
def depOk (hf : Nat → Int32) (Bh : Nat → Nat) (P : Nat) (f : Nat → Int32) (mw : Nat → Int64) (s0 k : Nat) : Prop := ∃ q, isP hf Bh P f (s0 + 2 + k * 32) q ∧ re_ok mw (nI q)
set_option maxHeartbeats 4000000 in
set_option maxRecDepth 100000 in
/-- the dependencies of the candidate -/
theorem m_In_findDependencies (l : Launch) (dC : Nat → ClassId) (dI : Nat → Nat → Nat) (cI cB cL cZ cR : ClassId) (h sk b_y fr fdA dpA hs bh rr mb : Nat) (it_changes it_lines it_sha it_form it_named it_linesOfFile it_nextFile it_nextLine sk_firstChange sk_leansOn sk_leantBy sk_changes sk_lines rr_digest rr_size rr_version rr_digestVersion : Value) (f frf fdf dpf hf bf : Nat → Int32) (mw : Nat → Int64) (P F s0 : Nat) (Bh : Nat → Nat) (sz : Nat) (hs0 : frf P = nI s0) (hs1 : s0 + 2 + tw f s0 * 32 + 2 ≤ 290000) (hP5 : P ≤ 500) (hF : fdf P = nI F) (hroom : ∀ k, k < tw f s0 → F + k < 8400) (hF2 : F ≤ 8400) (gB : ∀ i, i < P → bf i = nI (Bh i) ∧ Bh i ≤ 500) (gU : hs_up hf Bh P) : Met l y_In_findDependencies ws_In_findDependencies ({ frames := 3, cells := 0, slots := 0, locals := 200 }) (xw_Pc dC dI [(cI, .int), (cB, .byte), (cL, .long), (cZ, .boolean), (cR, .object "PatchStore$Repository")] [.ref h, .ref rr] [(h, .inr (3, [.ref sk, it_changes, it_lines, it_sha, it_form, it_named, it_linesOfFile, it_nextFile, it_nextLine])), (sk, .inr (9, [.ref b_y, .ref fr, .ref fdA, sk_firstChange, .ref dpA, .ref hs, .ref bh, sk_leansOn, sk_leantBy, sk_changes, sk_lines, .int (nI P)])), (b_y, .inl (cB, 290000, .inl f)), (fr, .inl (cI, 502, .inl frf)), (fdA, .inl (cI, 502, .inl fdf)), (dpA, .inl (cI, 8400, .inl dpf)), (hs, .inl (cB, 16032, .inl hf)), (bh, .inl (cI, 500, .inl bf)), (rr, .inr (7, [.ref mb, rr_digest, rr_size, rr_version, rr_digestVersion])), (mb, .inl (cL, 8, .inr (.inl mw)))] sz) (va_Qi (fun (r : Int32) (u : (Nat → Int32) × (Nat → Int32)) => ((r = 1 ∧ (∀ j, j < tw f s0 → depOk hf Bh P f mw s0 j) ∧ (∀ j, j < tw f s0 → u.1 (F + j) = nI (pQ hf Bh P f (s0 + 2 + j * 32))) ∧ u.2 = upd fdf (P + 1) (nI (F + tw f s0))) ∨ (r = 0 ∧ ¬ ∀ j, j < tw f s0 → depOk hf Bh P f mw s0 j)) ∧ (∀ j, j < F → u.1 j = dpf j) ∧ (∀ j, j ≤ P → u.2 j = fdf j)) (fun u t => xw_B dC dI [(cI, .int), (cB, .byte), (cL, .long), (cZ, .boolean), (cR, .object "PatchStore$Repository")] (va_A [(h, .inr (3, [.ref sk, it_changes, it_lines, it_sha, it_form, it_named, it_linesOfFile, it_nextFile, it_nextLine])), (sk, .inr (9, [.ref b_y, .ref fr, .ref fdA, sk_firstChange, .ref dpA, .ref hs, .ref bh, sk_leansOn, sk_leantBy, sk_changes, sk_lines, .int (nI P)])), (b_y, .inl (cB, 290000, .inl f)), (fr, .inl (cI, 502, .inl frf)), (fdA, .inl (cI, 502, .inl fdf)), (dpA, .inl (cI, 8400, .inl dpf)), (hs, .inl (cB, 16032, .inl hf)), (bh, .inl (cI, 500, .inl bf)), (rr, .inr (7, [.ref mb, rr_digest, rr_size, rr_version, rr_digestVersion])), (mb, .inl (cL, 8, .inr (.inl mw)))] sz) [(h, .inr (3, [.ref sk, it_changes, it_lines, it_sha, it_form, it_named, it_linesOfFile, it_nextFile, it_nextLine])), (sk, .inr (9, [.ref b_y, .ref fr, .ref fdA, sk_firstChange, .ref dpA, .ref hs, .ref bh, sk_leansOn, sk_leantBy, sk_changes, sk_lines, .int (nI P)])), (b_y, .inl (cB, 290000, .inl f)), (fr, .inl (cI, 502, .inl frf)), (fdA, .inl (cI, 502, .inl u.2)), (dpA, .inl (cI, 8400, .inl u.1)), (hs, .inl (cB, 16032, .inl hf)), (bh, .inl (cI, 500, .inl bf)), (rr, .inr (7, [.ref mb, rr_digest, rr_size, rr_version, rr_digestVersion])), (mb, .inl (cL, 8, .inr (.inl mw)))] t) (va_A [(h, .inr (3, [.ref sk, it_changes, it_lines, it_sha, it_form, it_named, it_linesOfFile, it_nextFile, it_nextLine])), (sk, .inr (9, [.ref b_y, .ref fr, .ref fdA, sk_firstChange, .ref dpA, .ref hs, .ref bh, sk_leansOn, sk_leantBy, sk_changes, sk_lines, .int (nI P)])), (b_y, .inl (cB, 290000, .inl f)), (fr, .inl (cI, 502, .inl frf)), (fdA, .inl (cI, 502, .inl fdf)), (dpA, .inl (cI, 8400, .inl dpf)), (hs, .inl (cB, 16032, .inl hf)), (bh, .inl (cI, 500, .inl bf)), (rr, .inr (7, [.ref mb, rr_digest, rr_size, rr_version, rr_digestVersion])), (mb, .inl (cL, 8, .inr (.inl mw)))] sz)) 0 0 (va_A [(h, .inr (3, [.ref sk, it_changes, it_lines, it_sha, it_form, it_named, it_linesOfFile, it_nextFile, it_nextLine])), (sk, .inr (9, [.ref b_y, .ref fr, .ref fdA, sk_firstChange, .ref dpA, .ref hs, .ref bh, sk_leansOn, sk_leantBy, sk_changes, sk_lines, .int (nI P)])), (b_y, .inl (cB, 290000, .inl f)), (fr, .inl (cI, 502, .inl frf)), (fdA, .inl (cI, 502, .inl fdf)), (dpA, .inl (cI, 8400, .inl dpf)), (hs, .inl (cB, 16032, .inl hf)), (bh, .inl (cI, 500, .inl bf)), (rr, .inr (7, [.ref mb, rr_digest, rr_size, rr_version, rr_digestVersion])), (mb, .inl (cL, 8, .inr (.inl mw)))] sz) := by
  refine Met.ofW (cc := prog_4_method_3_code) (maxL := 7) (ret := (Option.some Jvm.ClassFile.FieldType.boolean)) (by decide) rfl ?_
  intro p e s m args below meth c s₁ B hml hv
  obtain ⟨rfl, hsz, hP, hK, hD0⟩ := hv
  have hx := B.exec
  have hb := B.bytes
  have hr := B.returns
  have hts0 := atoms_spec (ws := ws_In_findDependencies) B.pre
  have hts : ∀ w ∈ xg_1, w.before _ s = true := fun w h => hts0 w (List.mem_cons_of_mem _ h)
  have hown : s.vm.findClass "PatchStore$Intake" = some m.cls := findClass_of_methodNamed B.named
  have hlocks := B.notSynchronized
  subst hsz
  have hD := hD0.self (sz := s.heap.size)
  generalize hAe : va_A [(h, .inr (3, [.ref sk, it_changes, it_lines, it_sha, it_form, it_named, it_linesOfFile, it_nextFile, it_nextLine])), (sk, .inr (9, [.ref b_y, .ref fr, .ref fdA, sk_firstChange, .ref dpA, .ref hs, .ref bh, sk_leansOn, sk_leantBy, sk_changes, sk_lines, .int (nI P)])), (b_y, .inl (cB, 290000, .inl f)), (fr, .inl (cI, 502, .inl frf)), (fdA, .inl (cI, 502, .inl fdf)), (dpA, .inl (cI, 8400, .inl dpf)), (hs, .inl (cB, 16032, .inl hf)), (bh, .inl (cI, 500, .inl bf)), (rr, .inr (7, [.ref mb, rr_digest, rr_size, rr_version, rr_digestVersion])), (mb, .inl (cL, 8, .inr (.inl mw)))] s.heap.size = A at hD ⊢
  have hA : ∀ q : Nat, s.heap.size ≤ q → A q := fun q h => by rw [← hAe]; exact Or.inr h
  have hS : va_S A s.heap s.heap [] := va_S.rf
  have hl := lv_entry ([.ref h, .ref rr]) (n := 7) (Nat.le_of_ble_eq_true rfl)
  rw [lg_entry_eq]
  generalize (lg_sl ([.ref h, .ref rr]) ++ List.replicate (7 - (lg_sl ([.ref h, .ref rr])).length) Slot.unset).toArray = ls at hl ⊢
  have hl : lv_has ls 7 [(0, .ref h), (1, .ref rr)] := hl
  generalize hQe : MQ _ _ _ _ _ _ _ = Q
  refine lv_aload_n hx hb d_In_findDependencies_0 rfl (lv_at hl 0 rfl) ?_
  refine va_get (D := (dC, dI)) (ci := 3) (v := .ref sk) (C := R_In) (T := F_In) (N := 9) hx hb hts i_In hown hK hP 0 rfl rfl 0 (by decide) (hts _ gw_284) (fun _ h9 => h9) rfl d_In_findDependencies_1 ?_
  refine va_get (D := (dC, dI)) (ci := 9) (v := .ref fr) (C := R_St) (T := F_St) (N := 12) hx hb hts i_St hown hK hP 1 rfl rfl 1 (by decide) (hts _ gw_191) (fun _ h9 => h9) rfl d_In_findDependencies_4 ?_
  refine lv_aload_n hx hb d_In_findDependencies_7 rfl (lv_at hl 0 rfl) ?_
  refine va_get (D := (dC, dI)) (ci := 3) (v := .ref sk) (C := R_In) (T := F_In) (N := 9) hx hb hts i_In hown hK hP 0 rfl rfl 0 (by decide) (hts _ gw_284) (fun _ h9 => h9) rfl d_In_findDependencies_8 ?_
  refine va_get (D := (dC, dI)) (ci := 9) (v := .int (nI P)) (C := R_St) (T := F_St) (N := 12) hx hb hts i_St hown hK hP 1 rfl rfl 11 (by decide) (hts _ gw_238) (fun _ h9 => h9) rfl d_In_findDependencies_11 ?_
  refine va_iald hx hb hK hP 3 0 rfl rfl (vp_in_nI (by omega) (by omega)) d_In_findDependencies_14 ?_
  rw [show (nI P).toNatClampNeg = P from nI_clamp (by omega)]
  refine lv_topi (fun x_1 ex_1 => ?_)
  obtain rfl : x_1 = nI s0 := by rw [ex_1]; first | done | (exact hs0)
  refine lv_istore_n (lv' := [(2, .int (nI s0)), (0, .ref h), (1, .ref rr)]) hx hb d_In_findDependencies_15 rfl hl (by decide) rfl (fun ls hl => ?_)
  refine lv_aload_n hx hb d_In_findDependencies_16 rfl (lv_at hl 1 rfl) ?_
  refine va_get (D := (dC, dI)) (ci := 3) (v := .ref sk) (C := R_In) (T := F_In) (N := 9) hx hb hts i_In hown hK hP 0 rfl rfl 0 (by decide) (hts _ gw_284) (fun _ h9 => h9) rfl d_In_findDependencies_17 ?_
  refine lv_iload_n hx hb d_In_findDependencies_20 rfl (lv_at hl 0 rfl) ?_
  have hPc := hP.sub (ws' := [(sk, .inr (9, [.ref b_y, .ref fr, .ref fdA, sk_firstChange, .ref dpA, .ref hs, .ref bh, sk_leansOn, sk_leantBy, sk_changes, sk_lines, .int (nI P)])), (b_y, .inl (cB, 290000, .inl f))]) [1, 2] rfl
  have hDc := hD.sub (ws' := [(sk, .inr (9, [.ref b_y, .ref fr, .ref fdA, sk_firstChange, .ref dpA, .ref hs, .ref bh, sk_leansOn, sk_leantBy, sk_changes, sk_lines, .int (nI P)])), (b_y, .inl (cB, 290000, .inl f))]) [1, 2] (by decide) rfl
  have hFc := va_free (wc := [(sk, .inr (9, [.ref b_y, .ref fr, .ref fdA, sk_firstChange, .ref dpA, .ref hs, .ref bh, sk_leansOn, sk_leantBy, sk_changes, sk_lines, .int (nI P)])), (b_y, .inl (cB, 290000, .inl f))]) hD hS hA [1, 2] rfl
  refine va_calli (va_runV (As := [.int (nI s0)]) (rest := []) ⟨hx, hb, hml, hown, hts⟩ (m_St_two l dC dI cI cB cL cZ cR sk b_y (.ref fr) (.ref fdA) (sk_firstChange) (.ref dpA) (.ref hs) (.ref bh) (sk_leansOn) (sk_leantBy) (sk_changes) (sk_lines) (.int (nI P)) f s0 s.heap.size (by omega)) (cwV 1 hts (xg_V gw_815 gw_771 gw_772 gw_3 gw_773) rfl rfl rfl (by decide +kernel) ⟨Nat.le_of_ble_eq_true rfl, Nat.le_of_ble_eq_true rfl⟩) ⟨xw_blind, va_recv hK hPc (ci := 9) (q0 := 0) rfl rfl, fun U hU hW => ⟨rfl, by rw [hU], by rw [hU]; exact hPc, va_K.moved hW.alike hK, hDc.weaken (fun _ _ _ _ => trivial)⟩⟩ rfl rfl hl.1 rfl (lv_room (Nat.le_of_ble_eq_true rfl)) d_In_findDependencies_21 ⟨Nat.le_of_ble_eq_true rfl, Nat.le_of_ble_eq_true rfl⟩) hS (fun q _ h => hFc q h) hFc (fun r9 u t H1 locs ht hvm hw hB hz1 hk1 hS => ?_)
  obtain ⟨hP1, hK1, hD1⟩ := hB
  rw [ht] at hP1
  obtain ⟨hP, hD⟩ := va_join (wr := [(h, .inr (3, [.ref sk, it_changes, it_lines, it_sha, it_form, it_named, it_linesOfFile, it_nextFile, it_nextLine])), (fr, .inl (cI, 502, .inl frf)), (fdA, .inl (cI, 502, .inl fdf)), (dpA, .inl (cI, 8400, .inl dpf)), (hs, .inl (cB, 16032, .inl hf)), (bh, .inl (cI, 500, .inl bf)), (rr, .inr (7, [.ref mb, rr_digest, rr_size, rr_version, rr_digestVersion])), (mb, .inl (cL, 8, .inr (.inl mw)))]) (w1 := [(sk, .inr (9, [.ref b_y, .ref fr, .ref fdA, sk_firstChange, .ref dpA, .ref hs, .ref bh, sk_leansOn, sk_leantBy, sk_changes, sk_lines, .int (nI P)])), (b_y, .inl (cB, 290000, .inl f))]) hP hD [1, 2] [0, 3, 4, 5, 6, 7, 8, 9] rfl rfl (by decide) (by decide) hk1 hFc hP1 hD1
  generalize H1 = H at hP hS ⊢
  have hP : va_P (dC, dI) classes [(h, .inr (3, [.ref sk, it_changes, it_lines, it_sha, it_form, it_named, it_linesOfFile, it_nextFile, it_nextLine])), (fr, .inl (cI, 502, .inl frf)), (fdA, .inl (cI, 502, .inl fdf)), (dpA, .inl (cI, 8400, .inl dpf)), (hs, .inl (cB, 16032, .inl hf)), (bh, .inl (cI, 500, .inl bf)), (rr, .inr (7, [.ref mb, rr_digest, rr_size, rr_version, rr_digestVersion])), (mb, .inl (cL, 8, .inr (.inl mw))), (sk, .inr (9, [.ref b_y, .ref fr, .ref fdA, sk_firstChange, .ref dpA, .ref hs, .ref bh, sk_leansOn, sk_leantBy, sk_changes, sk_lines, .int (nI P)])), (b_y, .inl (cB, 290000, .inl f))] H := hP
  have hD : va_D A [(h, .inr (3, [.ref sk, it_changes, it_lines, it_sha, it_form, it_named, it_linesOfFile, it_nextFile, it_nextLine])), (fr, .inl (cI, 502, .inl frf)), (fdA, .inl (cI, 502, .inl fdf)), (dpA, .inl (cI, 8400, .inl dpf)), (hs, .inl (cB, 16032, .inl hf)), (bh, .inl (cI, 500, .inl bf)), (rr, .inr (7, [.ref mb, rr_digest, rr_size, rr_version, rr_digestVersion])), (mb, .inl (cL, 8, .inr (.inl mw))), (sk, .inr (9, [.ref b_y, .ref fr, .ref fdA, sk_firstChange, .ref dpA, .ref hs, .ref bh, sk_leansOn, sk_leantBy, sk_changes, sk_lines, .int (nI P)])), (b_y, .inl (cB, 290000, .inl f))] := hD
  subst hw
  have htw9 := tw_lt f s0
  refine lv_istore_n (lv' := [(3, .int (nI (tw f s0))), (2, .int (nI s0)), (0, .ref h), (1, .ref rr)]) hx hb d_In_findDependencies_24 rfl hl (by decide) rfl (fun ls hl => ?_)
  refine lv_aload_n hx hb d_In_findDependencies_25 rfl (lv_at hl 2 rfl) ?_
  refine va_get (D := (dC, dI)) (ci := 3) (v := .ref sk) (C := R_In) (T := F_In) (N := 9) hx hb hts i_In hown hK hP 0 rfl rfl 0 (by decide) (hts _ gw_284) (fun _ h9 => h9) rfl d_In_findDependencies_26 ?_
  refine va_get (D := (dC, dI)) (ci := 9) (v := .ref fdA) (C := R_St) (T := F_St) (N := 12) hx hb hts i_St hown hK hP 8 rfl rfl 2 (by decide) (hts _ gw_195) (fun _ h9 => h9) rfl d_In_findDependencies_29 ?_
  refine lv_aload_n hx hb d_In_findDependencies_32 rfl (lv_at hl 2 rfl) ?_
  refine va_get (D := (dC, dI)) (ci := 3) (v := .ref sk) (C := R_In) (T := F_In) (N := 9) hx hb hts i_In hown hK hP 0 rfl rfl 0 (by decide) (hts _ gw_284) (fun _ h9 => h9) rfl d_In_findDependencies_33 ?_
  refine va_get (D := (dC, dI)) (ci := 9) (v := .int (nI P)) (C := R_St) (T := F_St) (N := 12) hx hb hts i_St hown hK hP 8 rfl rfl 11 (by decide) (hts _ gw_238) (fun _ h9 => h9) rfl d_In_findDependencies_36 ?_
  refine va_iald hx hb hK hP 2 0 rfl rfl (vp_in_nI (by omega) (by omega)) d_In_findDependencies_39 ?_
  rw [show (nI P).toNatClampNeg = P from nI_clamp (by omega)]
  refine lv_topi (fun x_2 ex_2 => ?_)
  obtain rfl : x_2 = nI F := by rw [ex_2]; first | done | (exact hF)
  refine lv_istore (lv' := [(4, .int (nI F)), (3, .int (nI (tw f s0))), (2, .int (nI s0)), (0, .ref h), (1, .ref rr)]) hx hb d_In_findDependencies_40 hl (by decide) rfl (fun ls hl => ?_)
  refine lv_iconst (v := 0) hx hb d_In_findDependencies_42 (by decide) ?_
  refine lv_istore (lv' := [(5, .int 0), (4, .int (nI F)), (3, .int (nI (tw f s0))), (2, .int (nI s0)), (0, .ref h), (1, .ref rr)]) hx hb d_In_findDependencies_43 hl (by decide) rfl (fun ls hl => ?_)
  have loop_45 : ∀ (n9 : Nat) (k : Nat) (dp : Nat → Int32) (H : Heap) (locs : List Loc) (ls : Array Slot), tw f s0 - k < n9 → (k ≤ tw f s0) → (∀ j, j < k → depOk hf Bh P f mw s0 j) → (∀ j, j < k → dp (F + j) = nI (pQ hf Bh P f (s0 + 2 + j * 32))) → (∀ j, j < F → dp j = dpf j) → va_P (dC, dI) classes [(h, .inr (3, [.ref sk, it_changes, it_lines, it_sha, it_form, it_named, it_linesOfFile, it_nextFile, it_nextLine])), (sk, .inr (9, [.ref b_y, .ref fr, .ref fdA, sk_firstChange, .ref dpA, .ref hs, .ref bh, sk_leansOn, sk_leantBy, sk_changes, sk_lines, .int (nI P)])), (b_y, .inl (cB, 290000, .inl f)), (fr, .inl (cI, 502, .inl frf)), (fdA, .inl (cI, 502, .inl fdf)), (dpA, .inl (cI, 8400, .inl dp)), (hs, .inl (cB, 16032, .inl hf)), (bh, .inl (cI, 500, .inl bf)), (rr, .inr (7, [.ref mb, rr_digest, rr_size, rr_version, rr_digestVersion])), (mb, .inl (cL, 8, .inr (.inl mw)))] H → va_D A [(h, .inr (3, [.ref sk, it_changes, it_lines, it_sha, it_form, it_named, it_linesOfFile, it_nextFile, it_nextLine])), (sk, .inr (9, [.ref b_y, .ref fr, .ref fdA, sk_firstChange, .ref dpA, .ref hs, .ref bh, sk_leansOn, sk_leantBy, sk_changes, sk_lines, .int (nI P)])), (b_y, .inl (cB, 290000, .inl f)), (fr, .inl (cI, 502, .inl frf)), (fdA, .inl (cI, 502, .inl fdf)), (dpA, .inl (cI, 8400, .inl dp)), (hs, .inl (cB, 16032, .inl hf)), (bh, .inl (cI, 500, .inl bf)), (rr, .inr (7, [.ref mb, rr_digest, rr_size, rr_version, rr_digestVersion])), (mb, .inl (cL, 8, .inr (.inl mw)))] → va_S A s.heap H locs → lv_has ls 7 [(0, .ref h), (1, .ref rr), (2, .int (nI s0)), (3, .int (nI (tw f s0))), (4, .int (nI F)), (5, .int (nI k))] → W p l e (headSpec ws_In_findDependencies ({ frames := 3, cells := 0, slots := 0, locals := 200 })).room s m ([.ref h, .ref rr] : List Value).toArray below meth c H locs 0 0 Q (F0 m 45 ls []) := by
    intro n9
    induction n9 with
    | zero => intro k dp H locs ls hm; exact absurd hm (Nat.not_lt_zero _)
    | succ n9 ih_45 =>
      intro k dp H locs ls hm hk hok hdp hfr hP hD hS hl
      have htw := tw_lt f s0
      refine lv_iload hx hb d_In_findDependencies_45 (lv_at hl 5 rfl) ?_
      refine lv_iload_n hx hb d_In_findDependencies_47 rfl (lv_at hl 3 rfl) ?_
      refine lv_icmp_ge (tgt := 119) hx hb d_In_findDependencies_48 (by decide) (fun c_48 => ?_) (fun c_48 => ?_)
      · have n_48 : (tw f s0) ≤ k := (nI_leI (a := (tw f s0)) (b := k) (by omega) (by omega)).mp c_48
        refine lv_aload_n hx hb d_In_findDependencies_119 rfl (lv_at hl 0 rfl) ?_
        refine va_get (D := (dC, dI)) (ci := 3) (v := .ref sk) (C := R_In) (T := F_In) (N := 9) hx hb hts i_In hown hK hP 0 rfl rfl 0 (by decide) (hts _ gw_284) (fun _ h9 => h9) rfl d_In_findDependencies_120 ?_
        refine va_get (D := (dC, dI)) (ci := 9) (v := .ref fdA) (C := R_St) (T := F_St) (N := 12) hx hb hts i_St hown hK hP 1 rfl rfl 2 (by decide) (hts _ gw_195) (fun _ h9 => h9) rfl d_In_findDependencies_123 ?_
        refine lv_aload_n hx hb d_In_findDependencies_126 rfl (lv_at hl 0 rfl) ?_
        refine va_get (D := (dC, dI)) (ci := 3) (v := .ref sk) (C := R_In) (T := F_In) (N := 9) hx hb hts i_In hown hK hP 0 rfl rfl 0 (by decide) (hts _ gw_284) (fun _ h9 => h9) rfl d_In_findDependencies_127 ?_
        refine va_get (D := (dC, dI)) (ci := 9) (v := .int (nI P)) (C := R_St) (T := F_St) (N := 12) hx hb hts i_St hown hK hP 1 rfl rfl 11 (by decide) (hts _ gw_238) (fun _ h9 => h9) rfl d_In_findDependencies_130 ?_
        refine lv_iconst (v := 1) hx hb d_In_findDependencies_133 (by decide) ?_
        refine lv_iadd hx hb d_In_findDependencies_134 ?_
        refine lv_topi (fun x_3 ex_3 => ?_)
        obtain rfl : x_3 = nI (P + 1) := by rw [ex_3]; first | done | (exact nI_add _ _)
        refine lv_iload hx hb d_In_findDependencies_135 (lv_at hl 4 rfl) ?_
        refine lv_iload_n hx hb d_In_findDependencies_137 rfl (lv_at hl 3 rfl) ?_
        refine lv_iadd hx hb d_In_findDependencies_138 ?_
        refine lv_topi (fun x_4 ex_4 => ?_)
        obtain rfl : x_4 = nI (F + (tw f s0)) := by rw [ex_4]; first | done | (exact nI_add _ _)
        refine va_iast hx hb hK hP hD hS 4 0 rfl rfl (vp_in_nI (by omega) (by omega)) d_In_findDependencies_139 (fun H locs hP hD hS => ?_)
        rw [show (nI (P + 1)).toNatClampNeg = (P + 1) from nI_clamp (by omega)] at hP hD
        have hP : va_P (dC, dI) classes [(h, .inr (3, [.ref sk, it_changes, it_lines, it_sha, it_form, it_named, it_linesOfFile, it_nextFile, it_nextLine])), (sk, .inr (9, [.ref b_y, .ref fr, .ref fdA, sk_firstChange, .ref dpA, .ref hs, .ref bh, sk_leansOn, sk_leantBy, sk_changes, sk_lines, .int (nI P)])), (b_y, .inl (cB, 290000, .inl f)), (fr, .inl (cI, 502, .inl frf)), (fdA, .inl (cI, 502, .inl (upd fdf (P + 1) (nI (F + (tw f s0)))))), (dpA, .inl (cI, 8400, .inl dp)), (hs, .inl (cB, 16032, .inl hf)), (bh, .inl (cI, 500, .inl bf)), (rr, .inr (7, [.ref mb, rr_digest, rr_size, rr_version, rr_digestVersion])), (mb, .inl (cL, 8, .inr (.inl mw)))] H := hP
        have hD : va_D A [(h, .inr (3, [.ref sk, it_changes, it_lines, it_sha, it_form, it_named, it_linesOfFile, it_nextFile, it_nextLine])), (sk, .inr (9, [.ref b_y, .ref fr, .ref fdA, sk_firstChange, .ref dpA, .ref hs, .ref bh, sk_leansOn, sk_leantBy, sk_changes, sk_lines, .int (nI P)])), (b_y, .inl (cB, 290000, .inl f)), (fr, .inl (cI, 502, .inl frf)), (fdA, .inl (cI, 502, .inl (upd fdf (P + 1) (nI (F + (tw f s0)))))), (dpA, .inl (cI, 8400, .inl dp)), (hs, .inl (cB, 16032, .inl hf)), (bh, .inl (cI, 500, .inl bf)), (rr, .inr (7, [.ref mb, rr_digest, rr_size, rr_version, rr_digestVersion])), (mb, .inl (cL, 8, .inr (.inl mw)))] := hD
        refine lv_iconst (v := 1) hx hb d_In_findDependencies_140 (by decide) ?_
        rw [← hQe]
        exact W.zret (v := 1) hx hb hr nz_b1 (fun t ht hW => ⟨⟨_, (dp, upd fdf (P + 1) (nI (F + (tw f s0)))), rfl, ⟨Or.inl ⟨rfl, fun j z => hok j (by omega), fun j z => hdp j (by omega), rfl⟩, hfr, fun j z => upd_ne _ (by omega)⟩, by rw [ht]; exact hP, va_K.moved hW.alike hK, hD⟩, hS.F ht⟩) hS.2.2 d_In_findDependencies_141
      · have n_48 : k < (tw f s0) := Nat.lt_of_not_le (fun z => c_48 ((nI_leI (a := (tw f s0)) (b := k) (by omega) (by omega)).mpr z))
        have hrk := hroom k n_48
        refine lv_aload_n hx hb d_In_findDependencies_51 rfl (lv_at hl 0 rfl) ?_
        refine va_get (D := (dC, dI)) (ci := 3) (v := .ref sk) (C := R_In) (T := F_In) (N := 9) hx hb hts i_In hown hK hP 0 rfl rfl 0 (by decide) (hts _ gw_284) (fun _ h9 => h9) rfl d_In_findDependencies_52 ?_
        refine lv_aload_n hx hb d_In_findDependencies_55 rfl (lv_at hl 0 rfl) ?_
        refine va_get (D := (dC, dI)) (ci := 3) (v := .ref sk) (C := R_In) (T := F_In) (N := 9) hx hb hts i_In hown hK hP 0 rfl rfl 0 (by decide) (hts _ gw_284) (fun _ h9 => h9) rfl d_In_findDependencies_56 ?_
        refine va_get (D := (dC, dI)) (ci := 9) (v := .ref b_y) (C := R_St) (T := F_St) (N := 12) hx hb hts i_St hown hK hP 1 rfl rfl 0 (by decide) (hts _ gw_184) (fun _ h9 => h9) rfl d_In_findDependencies_59 ?_
        refine lv_iload_n hx hb d_In_findDependencies_62 rfl (lv_at hl 2 rfl) ?_
        refine lv_iconst (v := 2) hx hb d_In_findDependencies_63 (by decide) ?_
        refine lv_iadd hx hb d_In_findDependencies_64 ?_
        refine lv_topi (fun x_5 ex_5 => ?_)
        obtain rfl : x_5 = nI (s0 + 2) := by rw [ex_5]; first | done | (exact nI_add _ _)
        refine lv_iload hx hb d_In_findDependencies_65 (lv_at hl 5 rfl) ?_
        refine lv_bipush (v := 32) hx hb d_In_findDependencies_67 (by decide) ?_
        refine lv_imul hx hb d_In_findDependencies_69 ?_
        refine lv_topi (fun x_6 ex_6 => ?_)
        obtain rfl : x_6 = nI (k * 32) := by rw [ex_6]; first | done | (exact nI_mul _ _)
        refine lv_iadd hx hb d_In_findDependencies_70 ?_
        refine lv_topi (fun x_7 ex_7 => ?_)
        obtain rfl : x_7 = nI (s0 + 2 + (k * 32)) := by rw [ex_7]; first | done | (exact nI_add _ _)
        have hPc := hP.sub (ws' := [(sk, .inr (9, [.ref b_y, .ref fr, .ref fdA, sk_firstChange, .ref dpA, .ref hs, .ref bh, sk_leansOn, sk_leantBy, sk_changes, sk_lines, .int (nI P)])), (hs, .inl (cB, 16032, .inl hf)), (bh, .inl (cI, 500, .inl bf)), (b_y, .inl (cB, 290000, .inl f))]) [1, 6, 7, 2] rfl
        have hDc := hD.sub (ws' := [(sk, .inr (9, [.ref b_y, .ref fr, .ref fdA, sk_firstChange, .ref dpA, .ref hs, .ref bh, sk_leansOn, sk_leantBy, sk_changes, sk_lines, .int (nI P)])), (hs, .inl (cB, 16032, .inl hf)), (bh, .inl (cI, 500, .inl bf)), (b_y, .inl (cB, 290000, .inl f))]) [1, 6, 7, 2] (by decide) rfl
        have hFc := va_free (wc := [(sk, .inr (9, [.ref b_y, .ref fr, .ref fdA, sk_firstChange, .ref dpA, .ref hs, .ref bh, sk_leansOn, sk_leantBy, sk_changes, sk_lines, .int (nI P)])), (hs, .inl (cB, 16032, .inl hf)), (bh, .inl (cI, 500, .inl bf)), (b_y, .inl (cB, 290000, .inl f))]) hD hS hA [1, 6, 7, 2] rfl
        refine va_calli (va_runV (As := [.ref b_y, .int (nI (s0 + 2 + (k * 32)))]) (rest := []) ⟨hx, hb, hml, hown, hts⟩ (m_St_patchWith l dC dI cI cB cL cZ cR sk hs bh b_y (.ref b_y) (.ref fr) (.ref fdA) (sk_firstChange) (.ref dpA) (sk_leansOn) (sk_leantBy) (sk_changes) (sk_lines) P (s0 + 2 + (k * 32)) 290000 hf bf f Bh H.size hP5 gB gU (by decide) (by omega)) (cwV 2 hts (xg_V gw_816 gw_817 gw_818 gw_3 gw_819) rfl rfl rfl (by decide +kernel) ⟨Nat.le_of_ble_eq_true rfl, Nat.le_of_ble_eq_true rfl⟩) ⟨xw_blind, va_recv hK hPc (ci := 9) (q0 := 0) rfl rfl, fun U hU hW => ⟨rfl, by rw [hU], by rw [hU]; exact hPc, va_K.moved hW.alike hK, hDc.weaken (fun _ _ _ _ => trivial)⟩⟩ rfl rfl hl.1 rfl (lv_room (Nat.le_of_ble_eq_true rfl)) d_In_findDependencies_71 ⟨Nat.le_of_ble_eq_true rfl, Nat.le_of_ble_eq_true rfl⟩) hS (fun q _ h => hFc q h) hFc (fun r9 u t H1 locs ht hvm hw hB hz1 hk1 hS => ?_)
        obtain ⟨hP1, hK1, hD1⟩ := hB
        rw [ht] at hP1
        obtain ⟨hP, hD⟩ := va_join (wr := [(h, .inr (3, [.ref sk, it_changes, it_lines, it_sha, it_form, it_named, it_linesOfFile, it_nextFile, it_nextLine])), (fr, .inl (cI, 502, .inl frf)), (fdA, .inl (cI, 502, .inl fdf)), (dpA, .inl (cI, 8400, .inl dp)), (rr, .inr (7, [.ref mb, rr_digest, rr_size, rr_version, rr_digestVersion])), (mb, .inl (cL, 8, .inr (.inl mw)))]) (w1 := [(sk, .inr (9, [.ref b_y, .ref fr, .ref fdA, sk_firstChange, .ref dpA, .ref hs, .ref bh, sk_leansOn, sk_leantBy, sk_changes, sk_lines, .int (nI P)])), (hs, .inl (cB, 16032, .inl hf)), (bh, .inl (cI, 500, .inl bf)), (b_y, .inl (cB, 290000, .inl f))]) hP hD [1, 6, 7, 2] [0, 3, 4, 5, 8, 9] rfl rfl (by decide) (by decide) hk1 hFc hP1 hD1
        generalize H1 = H at hP hS ⊢
        have hP : va_P (dC, dI) classes [(h, .inr (3, [.ref sk, it_changes, it_lines, it_sha, it_form, it_named, it_linesOfFile, it_nextFile, it_nextLine])), (fr, .inl (cI, 502, .inl frf)), (fdA, .inl (cI, 502, .inl fdf)), (dpA, .inl (cI, 8400, .inl dp)), (rr, .inr (7, [.ref mb, rr_digest, rr_size, rr_version, rr_digestVersion])), (mb, .inl (cL, 8, .inr (.inl mw))), (sk, .inr (9, [.ref b_y, .ref fr, .ref fdA, sk_firstChange, .ref dpA, .ref hs, .ref bh, sk_leansOn, sk_leantBy, sk_changes, sk_lines, .int (nI P)])), (hs, .inl (cB, 16032, .inl hf)), (bh, .inl (cI, 500, .inl bf)), (b_y, .inl (cB, 290000, .inl f))] H := hP
        have hD : va_D A [(h, .inr (3, [.ref sk, it_changes, it_lines, it_sha, it_form, it_named, it_linesOfFile, it_nextFile, it_nextLine])), (fr, .inl (cI, 502, .inl frf)), (fdA, .inl (cI, 502, .inl fdf)), (dpA, .inl (cI, 8400, .inl dp)), (rr, .inr (7, [.ref mb, rr_digest, rr_size, rr_version, rr_digestVersion])), (mb, .inl (cL, 8, .inr (.inl mw))), (sk, .inr (9, [.ref b_y, .ref fr, .ref fdA, sk_firstChange, .ref dpA, .ref hs, .ref bh, sk_leansOn, sk_leantBy, sk_changes, sk_lines, .int (nI P)])), (hs, .inl (cB, 16032, .inl hf)), (bh, .inl (cI, 500, .inl bf)), (b_y, .inl (cB, 290000, .inl f))] := hD
        rcases hw with ⟨rfl, hnone⟩ | ⟨ii, hii, heq, rfl⟩
        · have hP : va_P (dC, dI) classes [(h, .inr (3, [.ref sk, it_changes, it_lines, it_sha, it_form, it_named, it_linesOfFile, it_nextFile, it_nextLine])), (fr, .inl (cI, 502, .inl frf)), (fdA, .inl (cI, 502, .inl fdf)), (dpA, .inl (cI, 8400, .inl dp)), (rr, .inr (7, [.ref mb, rr_digest, rr_size, rr_version, rr_digestVersion])), (mb, .inl (cL, 8, .inr (.inl mw))), (sk, .inr (9, [.ref b_y, .ref fr, .ref fdA, sk_firstChange, .ref dpA, .ref hs, .ref bh, sk_leansOn, sk_leantBy, sk_changes, sk_lines, .int (nI P)])), (hs, .inl (cB, 16032, .inl hf)), (bh, .inl (cI, 500, .inl bf)), (b_y, .inl (cB, 290000, .inl f))] H := hP
          have hD : va_D A [(h, .inr (3, [.ref sk, it_changes, it_lines, it_sha, it_form, it_named, it_linesOfFile, it_nextFile, it_nextLine])), (fr, .inl (cI, 502, .inl frf)), (fdA, .inl (cI, 502, .inl fdf)), (dpA, .inl (cI, 8400, .inl dp)), (rr, .inr (7, [.ref mb, rr_digest, rr_size, rr_version, rr_digestVersion])), (mb, .inl (cL, 8, .inr (.inl mw))), (sk, .inr (9, [.ref b_y, .ref fr, .ref fdA, sk_firstChange, .ref dpA, .ref hs, .ref bh, sk_leansOn, sk_leantBy, sk_changes, sk_lines, .int (nI P)])), (hs, .inl (cB, 16032, .inl hf)), (bh, .inl (cI, 500, .inl bf)), (b_y, .inl (cB, 290000, .inl f))] := hD
          have hno : ¬ ∀ j, j < tw f s0 → depOk hf Bh P f mw s0 j := fun z => by
            obtain ⟨q, ⟨i, hi, e1, -⟩, -⟩ := z k n_48
            exact hnone i hi e1
          refine lv_istore (lv' := [(6, .int (-1)), (0, .ref h), (1, .ref rr), (2, .int (nI s0)), (3, .int (nI (tw f s0))), (4, .int (nI F)), (5, .int (nI k))]) hx hb d_In_findDependencies_74 hl (by decide) rfl (fun ls hl => ?_)
          refine lv_aload_n hx hb d_In_findDependencies_76 rfl (lv_at hl 2 rfl) ?_
          refine lv_iload hx hb d_In_findDependencies_77 (lv_at hl 0 rfl) ?_
          have hPc := hP.sub (ws' := [(rr, .inr (7, [.ref mb, rr_digest, rr_size, rr_version, rr_digestVersion])), (mb, .inl (cL, 8, .inr (.inl mw)))]) [4, 5] rfl
          have hDc := hD.sub (ws' := [(rr, .inr (7, [.ref mb, rr_digest, rr_size, rr_version, rr_digestVersion])), (mb, .inl (cL, 8, .inr (.inl mw)))]) [4, 5] (by decide) rfl
          have hFc := va_free (wc := [(rr, .inr (7, [.ref mb, rr_digest, rr_size, rr_version, rr_digestVersion])), (mb, .inl (cL, 8, .inr (.inl mw)))]) hD hS hA [4, 5] rfl
          refine va_calli (va_runV (As := [.int (-1)]) (rest := []) ⟨hx, hb, hml, hown, hts⟩ (m_Re_holds l dC dI cI cB cL cZ cR rr mb (rr_digest) (rr_size) (rr_version) (rr_digestVersion) mw (-1) H.size ) (cwV 1 hts (xg_V gw_825 gw_826 gw_827 gw_12 gw_828) rfl rfl rfl (by decide +kernel) ⟨Nat.le_of_ble_eq_true rfl, Nat.le_of_ble_eq_true rfl⟩) ⟨xw_blind, va_recv hK hPc (ci := 7) (q0 := 0) rfl rfl, fun U hU hW => ⟨rfl, by rw [hU], by rw [hU]; exact hPc, va_K.moved hW.alike hK, hDc.weaken (fun _ _ _ _ => trivial)⟩⟩ rfl rfl hl.1 rfl (lv_room (Nat.le_of_ble_eq_true rfl)) d_In_findDependencies_79 ⟨Nat.le_of_ble_eq_true rfl, Nat.le_of_ble_eq_true rfl⟩) hS (fun q _ h => hFc q h) hFc (fun r9 u t H1 locs ht hvm hw hB hz1 hk1 hS => ?_)
          obtain ⟨hP1, hK1, hD1⟩ := hB
          rw [ht] at hP1
          obtain ⟨hP, hD⟩ := va_join (wr := [(h, .inr (3, [.ref sk, it_changes, it_lines, it_sha, it_form, it_named, it_linesOfFile, it_nextFile, it_nextLine])), (fr, .inl (cI, 502, .inl frf)), (fdA, .inl (cI, 502, .inl fdf)), (dpA, .inl (cI, 8400, .inl dp)), (sk, .inr (9, [.ref b_y, .ref fr, .ref fdA, sk_firstChange, .ref dpA, .ref hs, .ref bh, sk_leansOn, sk_leantBy, sk_changes, sk_lines, .int (nI P)])), (hs, .inl (cB, 16032, .inl hf)), (bh, .inl (cI, 500, .inl bf)), (b_y, .inl (cB, 290000, .inl f))]) (w1 := [(rr, .inr (7, [.ref mb, rr_digest, rr_size, rr_version, rr_digestVersion])), (mb, .inl (cL, 8, .inr (.inl mw)))]) hP hD [4, 5] [0, 1, 2, 3, 6, 7, 8, 9] rfl rfl (by decide) (by decide) hk1 hFc hP1 hD1
          generalize H1 = H at hP hS ⊢
          have hP : va_P (dC, dI) classes [(h, .inr (3, [.ref sk, it_changes, it_lines, it_sha, it_form, it_named, it_linesOfFile, it_nextFile, it_nextLine])), (fr, .inl (cI, 502, .inl frf)), (fdA, .inl (cI, 502, .inl fdf)), (dpA, .inl (cI, 8400, .inl dp)), (sk, .inr (9, [.ref b_y, .ref fr, .ref fdA, sk_firstChange, .ref dpA, .ref hs, .ref bh, sk_leansOn, sk_leantBy, sk_changes, sk_lines, .int (nI P)])), (hs, .inl (cB, 16032, .inl hf)), (bh, .inl (cI, 500, .inl bf)), (b_y, .inl (cB, 290000, .inl f)), (rr, .inr (7, [.ref mb, rr_digest, rr_size, rr_version, rr_digestVersion])), (mb, .inl (cL, 8, .inr (.inl mw)))] H := hP
          have hD : va_D A [(h, .inr (3, [.ref sk, it_changes, it_lines, it_sha, it_form, it_named, it_linesOfFile, it_nextFile, it_nextLine])), (fr, .inl (cI, 502, .inl frf)), (fdA, .inl (cI, 502, .inl fdf)), (dpA, .inl (cI, 8400, .inl dp)), (sk, .inr (9, [.ref b_y, .ref fr, .ref fdA, sk_firstChange, .ref dpA, .ref hs, .ref bh, sk_leansOn, sk_leantBy, sk_changes, sk_lines, .int (nI P)])), (hs, .inl (cB, 16032, .inl hf)), (bh, .inl (cI, 500, .inl bf)), (b_y, .inl (cB, 290000, .inl f)), (rr, .inr (7, [.ref mb, rr_digest, rr_size, rr_version, rr_digestVersion])), (mb, .inl (cL, 8, .inr (.inl mw)))] := hD
          rcases hw with ⟨rfl, hh⟩ | ⟨rfl, hh⟩
          · exact absurd hh re_m1
          · have hP : va_P (dC, dI) classes [(h, .inr (3, [.ref sk, it_changes, it_lines, it_sha, it_form, it_named, it_linesOfFile, it_nextFile, it_nextLine])), (fr, .inl (cI, 502, .inl frf)), (fdA, .inl (cI, 502, .inl fdf)), (dpA, .inl (cI, 8400, .inl dp)), (sk, .inr (9, [.ref b_y, .ref fr, .ref fdA, sk_firstChange, .ref dpA, .ref hs, .ref bh, sk_leansOn, sk_leantBy, sk_changes, sk_lines, .int (nI P)])), (hs, .inl (cB, 16032, .inl hf)), (bh, .inl (cI, 500, .inl bf)), (b_y, .inl (cB, 290000, .inl f)), (rr, .inr (7, [.ref mb, rr_digest, rr_size, rr_version, rr_digestVersion])), (mb, .inl (cL, 8, .inr (.inl mw)))] H := hP
            have hD : va_D A [(h, .inr (3, [.ref sk, it_changes, it_lines, it_sha, it_form, it_named, it_linesOfFile, it_nextFile, it_nextLine])), (fr, .inl (cI, 502, .inl frf)), (fdA, .inl (cI, 502, .inl fdf)), (dpA, .inl (cI, 8400, .inl dp)), (sk, .inr (9, [.ref b_y, .ref fr, .ref fdA, sk_firstChange, .ref dpA, .ref hs, .ref bh, sk_leansOn, sk_leantBy, sk_changes, sk_lines, .int (nI P)])), (hs, .inl (cB, 16032, .inl hf)), (bh, .inl (cI, 500, .inl bf)), (b_y, .inl (cB, 290000, .inl f)), (rr, .inr (7, [.ref mb, rr_digest, rr_size, rr_version, rr_digestVersion])), (mb, .inl (cL, 8, .inr (.inl mw)))] := hD
            refine lv_if_eq (tgt := 96) hx hb d_In_findDependencies_82 (by decide) (fun _ => ?_) (fun c_82 => absurd (by decide) c_82)
            refine lv_iconst (v := 0) hx hb d_In_findDependencies_96 (by decide) ?_
            have hP := hP.sub (ws' := [(h, .inr (3, [.ref sk, it_changes, it_lines, it_sha, it_form, it_named, it_linesOfFile, it_nextFile, it_nextLine])), (sk, .inr (9, [.ref b_y, .ref fr, .ref fdA, sk_firstChange, .ref dpA, .ref hs, .ref bh, sk_leansOn, sk_leantBy, sk_changes, sk_lines, .int (nI P)])), (b_y, .inl (cB, 290000, .inl f)), (fr, .inl (cI, 502, .inl frf)), (fdA, .inl (cI, 502, .inl fdf)), (dpA, .inl (cI, 8400, .inl dp)), (hs, .inl (cB, 16032, .inl hf)), (bh, .inl (cI, 500, .inl bf)), (rr, .inr (7, [.ref mb, rr_digest, rr_size, rr_version, rr_digestVersion])), (mb, .inl (cL, 8, .inr (.inl mw)))]) [0, 4, 7, 1, 2, 3, 5, 6, 8, 9] rfl
            have hD := hD.sub (ws' := [(h, .inr (3, [.ref sk, it_changes, it_lines, it_sha, it_form, it_named, it_linesOfFile, it_nextFile, it_nextLine])), (sk, .inr (9, [.ref b_y, .ref fr, .ref fdA, sk_firstChange, .ref dpA, .ref hs, .ref bh, sk_leansOn, sk_leantBy, sk_changes, sk_lines, .int (nI P)])), (b_y, .inl (cB, 290000, .inl f)), (fr, .inl (cI, 502, .inl frf)), (fdA, .inl (cI, 502, .inl fdf)), (dpA, .inl (cI, 8400, .inl dp)), (hs, .inl (cB, 16032, .inl hf)), (bh, .inl (cI, 500, .inl bf)), (rr, .inr (7, [.ref mb, rr_digest, rr_size, rr_version, rr_digestVersion])), (mb, .inl (cL, 8, .inr (.inl mw)))]) [0, 4, 7, 1, 2, 3, 5, 6, 8, 9] (by decide) rfl
            rw [← hQe]
            exact W.zret (v := 0) hx hb hr nz_b0 (fun t ht hW => ⟨⟨_, (dp, fdf), rfl, ⟨Or.inr ⟨rfl, hno⟩, hfr, fun _ _ => rfl⟩, by rw [ht]; exact hP, va_K.moved hW.alike hK, hD⟩, hS.F ht⟩) hS.2.2 d_In_findDependencies_97
        · have hP : va_P (dC, dI) classes [(h, .inr (3, [.ref sk, it_changes, it_lines, it_sha, it_form, it_named, it_linesOfFile, it_nextFile, it_nextLine])), (fr, .inl (cI, 502, .inl frf)), (fdA, .inl (cI, 502, .inl fdf)), (dpA, .inl (cI, 8400, .inl dp)), (rr, .inr (7, [.ref mb, rr_digest, rr_size, rr_version, rr_digestVersion])), (mb, .inl (cL, 8, .inr (.inl mw))), (sk, .inr (9, [.ref b_y, .ref fr, .ref fdA, sk_firstChange, .ref dpA, .ref hs, .ref bh, sk_leansOn, sk_leantBy, sk_changes, sk_lines, .int (nI P)])), (hs, .inl (cB, 16032, .inl hf)), (bh, .inl (cI, 500, .inl bf)), (b_y, .inl (cB, 290000, .inl f))] H := hP
          have hD : va_D A [(h, .inr (3, [.ref sk, it_changes, it_lines, it_sha, it_form, it_named, it_linesOfFile, it_nextFile, it_nextLine])), (fr, .inl (cI, 502, .inl frf)), (fdA, .inl (cI, 502, .inl fdf)), (dpA, .inl (cI, 8400, .inl dp)), (rr, .inr (7, [.ref mb, rr_digest, rr_size, rr_version, rr_digestVersion])), (mb, .inl (cL, 8, .inr (.inl mw))), (sk, .inr (9, [.ref b_y, .ref fr, .ref fdA, sk_firstChange, .ref dpA, .ref hs, .ref bh, sk_leansOn, sk_leantBy, sk_changes, sk_lines, .int (nI P)])), (hs, .inl (cB, 16032, .inl hf)), (bh, .inl (cI, 500, .inl bf)), (b_y, .inl (cB, 290000, .inl f))] := hD
          have hisP : isP hf Bh P f (s0 + 2 + k * 32) (Bh ii) := ⟨ii, hii, heq, rfl⟩
          refine lv_istore (lv' := [(6, .int (nI (Bh ii))), (0, .ref h), (1, .ref rr), (2, .int (nI s0)), (3, .int (nI (tw f s0))), (4, .int (nI F)), (5, .int (nI k))]) hx hb d_In_findDependencies_74 hl (by decide) rfl (fun ls hl => ?_)
          refine lv_aload_n hx hb d_In_findDependencies_76 rfl (lv_at hl 2 rfl) ?_
          refine lv_iload hx hb d_In_findDependencies_77 (lv_at hl 0 rfl) ?_
          have hPc := hP.sub (ws' := [(rr, .inr (7, [.ref mb, rr_digest, rr_size, rr_version, rr_digestVersion])), (mb, .inl (cL, 8, .inr (.inl mw)))]) [4, 5] rfl
          have hDc := hD.sub (ws' := [(rr, .inr (7, [.ref mb, rr_digest, rr_size, rr_version, rr_digestVersion])), (mb, .inl (cL, 8, .inr (.inl mw)))]) [4, 5] (by decide) rfl
          have hFc := va_free (wc := [(rr, .inr (7, [.ref mb, rr_digest, rr_size, rr_version, rr_digestVersion])), (mb, .inl (cL, 8, .inr (.inl mw)))]) hD hS hA [4, 5] rfl
          refine va_calli (va_runV (As := [.int (nI (Bh ii))]) (rest := []) ⟨hx, hb, hml, hown, hts⟩ (m_Re_holds l dC dI cI cB cL cZ cR rr mb (rr_digest) (rr_size) (rr_version) (rr_digestVersion) mw (nI (Bh ii)) H.size ) (cwV 1 hts (xg_V gw_825 gw_826 gw_827 gw_12 gw_828) rfl rfl rfl (by decide +kernel) ⟨Nat.le_of_ble_eq_true rfl, Nat.le_of_ble_eq_true rfl⟩) ⟨xw_blind, va_recv hK hPc (ci := 7) (q0 := 0) rfl rfl, fun U hU hW => ⟨rfl, by rw [hU], by rw [hU]; exact hPc, va_K.moved hW.alike hK, hDc.weaken (fun _ _ _ _ => trivial)⟩⟩ rfl rfl hl.1 rfl (lv_room (Nat.le_of_ble_eq_true rfl)) d_In_findDependencies_79 ⟨Nat.le_of_ble_eq_true rfl, Nat.le_of_ble_eq_true rfl⟩) hS (fun q _ h => hFc q h) hFc (fun r9 u t H1 locs ht hvm hw hB hz1 hk1 hS => ?_)
          obtain ⟨hP1, hK1, hD1⟩ := hB
          rw [ht] at hP1
          obtain ⟨hP, hD⟩ := va_join (wr := [(h, .inr (3, [.ref sk, it_changes, it_lines, it_sha, it_form, it_named, it_linesOfFile, it_nextFile, it_nextLine])), (fr, .inl (cI, 502, .inl frf)), (fdA, .inl (cI, 502, .inl fdf)), (dpA, .inl (cI, 8400, .inl dp)), (sk, .inr (9, [.ref b_y, .ref fr, .ref fdA, sk_firstChange, .ref dpA, .ref hs, .ref bh, sk_leansOn, sk_leantBy, sk_changes, sk_lines, .int (nI P)])), (hs, .inl (cB, 16032, .inl hf)), (bh, .inl (cI, 500, .inl bf)), (b_y, .inl (cB, 290000, .inl f))]) (w1 := [(rr, .inr (7, [.ref mb, rr_digest, rr_size, rr_version, rr_digestVersion])), (mb, .inl (cL, 8, .inr (.inl mw)))]) hP hD [4, 5] [0, 1, 2, 3, 6, 7, 8, 9] rfl rfl (by decide) (by decide) hk1 hFc hP1 hD1
          generalize H1 = H at hP hS ⊢
          have hP : va_P (dC, dI) classes [(h, .inr (3, [.ref sk, it_changes, it_lines, it_sha, it_form, it_named, it_linesOfFile, it_nextFile, it_nextLine])), (fr, .inl (cI, 502, .inl frf)), (fdA, .inl (cI, 502, .inl fdf)), (dpA, .inl (cI, 8400, .inl dp)), (sk, .inr (9, [.ref b_y, .ref fr, .ref fdA, sk_firstChange, .ref dpA, .ref hs, .ref bh, sk_leansOn, sk_leantBy, sk_changes, sk_lines, .int (nI P)])), (hs, .inl (cB, 16032, .inl hf)), (bh, .inl (cI, 500, .inl bf)), (b_y, .inl (cB, 290000, .inl f)), (rr, .inr (7, [.ref mb, rr_digest, rr_size, rr_version, rr_digestVersion])), (mb, .inl (cL, 8, .inr (.inl mw)))] H := hP
          have hD : va_D A [(h, .inr (3, [.ref sk, it_changes, it_lines, it_sha, it_form, it_named, it_linesOfFile, it_nextFile, it_nextLine])), (fr, .inl (cI, 502, .inl frf)), (fdA, .inl (cI, 502, .inl fdf)), (dpA, .inl (cI, 8400, .inl dp)), (sk, .inr (9, [.ref b_y, .ref fr, .ref fdA, sk_firstChange, .ref dpA, .ref hs, .ref bh, sk_leansOn, sk_leantBy, sk_changes, sk_lines, .int (nI P)])), (hs, .inl (cB, 16032, .inl hf)), (bh, .inl (cI, 500, .inl bf)), (b_y, .inl (cB, 290000, .inl f)), (rr, .inr (7, [.ref mb, rr_digest, rr_size, rr_version, rr_digestVersion])), (mb, .inl (cL, 8, .inr (.inl mw)))] := hD
          rcases hw with ⟨rfl, hh⟩ | ⟨rfl, hh⟩
          · have hP : va_P (dC, dI) classes [(h, .inr (3, [.ref sk, it_changes, it_lines, it_sha, it_form, it_named, it_linesOfFile, it_nextFile, it_nextLine])), (fr, .inl (cI, 502, .inl frf)), (fdA, .inl (cI, 502, .inl fdf)), (dpA, .inl (cI, 8400, .inl dp)), (sk, .inr (9, [.ref b_y, .ref fr, .ref fdA, sk_firstChange, .ref dpA, .ref hs, .ref bh, sk_leansOn, sk_leantBy, sk_changes, sk_lines, .int (nI P)])), (hs, .inl (cB, 16032, .inl hf)), (bh, .inl (cI, 500, .inl bf)), (b_y, .inl (cB, 290000, .inl f)), (rr, .inr (7, [.ref mb, rr_digest, rr_size, rr_version, rr_digestVersion])), (mb, .inl (cL, 8, .inr (.inl mw)))] H := hP
            have hD : va_D A [(h, .inr (3, [.ref sk, it_changes, it_lines, it_sha, it_form, it_named, it_linesOfFile, it_nextFile, it_nextLine])), (fr, .inl (cI, 502, .inl frf)), (fdA, .inl (cI, 502, .inl fdf)), (dpA, .inl (cI, 8400, .inl dp)), (sk, .inr (9, [.ref b_y, .ref fr, .ref fdA, sk_firstChange, .ref dpA, .ref hs, .ref bh, sk_leansOn, sk_leantBy, sk_changes, sk_lines, .int (nI P)])), (hs, .inl (cB, 16032, .inl hf)), (bh, .inl (cI, 500, .inl bf)), (b_y, .inl (cB, 290000, .inl f)), (rr, .inr (7, [.ref mb, rr_digest, rr_size, rr_version, rr_digestVersion])), (mb, .inl (cL, 8, .inr (.inl mw)))] := hD
            refine lv_if_eq (tgt := 96) hx hb d_In_findDependencies_82 (by decide) (fun c_82 => absurd c_82 (by decide)) (fun _ => ?_)
            refine lv_iload hx hb d_In_findDependencies_85 (lv_at hl 5 rfl) ?_
            refine lv_iload hx hb d_In_findDependencies_87 (lv_at hl 6 rfl) ?_
            refine lv_iadd hx hb d_In_findDependencies_89 ?_
            refine lv_topi (fun x_8 ex_8 => ?_)
            obtain rfl : x_8 = nI (F + k) := by rw [ex_8]; first | done | (exact nI_add _ _)
            refine lv_sipush (v := 8400) hx hb d_In_findDependencies_90 (by decide) ?_
            refine lv_icmp_lt (tgt := 98) hx hb d_In_findDependencies_93 (by decide) (fun _ => ?_) (fun c_93 => absurd ((nI_ltI (a := F + k) (b := 8400) (by omega) (by omega)).mpr (hroom k n_48)) c_93)
            refine lv_aload_n hx hb d_In_findDependencies_98 rfl (lv_at hl 1 rfl) ?_
            refine va_get (D := (dC, dI)) (ci := 3) (v := .ref sk) (C := R_In) (T := F_In) (N := 9) hx hb hts i_In hown hK hP 0 rfl rfl 0 (by decide) (hts _ gw_284) (fun _ h9 => h9) rfl d_In_findDependencies_99 ?_
            refine va_get (D := (dC, dI)) (ci := 9) (v := .ref dpA) (C := R_St) (T := F_St) (N := 12) hx hb hts i_St hown hK hP 4 rfl rfl 4 (by decide) (hts _ gw_203) (fun _ h9 => h9) rfl d_In_findDependencies_102 ?_
            refine lv_iload hx hb d_In_findDependencies_105 (lv_at hl 5 rfl) ?_
            refine lv_iload hx hb d_In_findDependencies_107 (lv_at hl 6 rfl) ?_
            refine lv_iadd hx hb d_In_findDependencies_109 ?_
            refine lv_topi (fun x_9 ex_9 => ?_)
            obtain rfl : x_9 = nI (F + k) := by rw [ex_9]; first | done | (exact nI_add _ _)
            refine lv_iload hx hb d_In_findDependencies_110 (lv_at hl 0 rfl) ?_
            refine va_iast hx hb hK hP hD hS 3 0 rfl rfl (vp_in_nI (by omega) (by omega)) d_In_findDependencies_112 (fun H locs hP hD hS => ?_)
            rw [show (nI (F + k)).toNatClampNeg = (F + k) from nI_clamp (by omega)] at hP hD
            have hP : va_P (dC, dI) classes [(h, .inr (3, [.ref sk, it_changes, it_lines, it_sha, it_form, it_named, it_linesOfFile, it_nextFile, it_nextLine])), (fr, .inl (cI, 502, .inl frf)), (fdA, .inl (cI, 502, .inl fdf)), (dpA, .inl (cI, 8400, .inl (upd dp (F + k) (nI (Bh ii))))), (sk, .inr (9, [.ref b_y, .ref fr, .ref fdA, sk_firstChange, .ref dpA, .ref hs, .ref bh, sk_leansOn, sk_leantBy, sk_changes, sk_lines, .int (nI P)])), (hs, .inl (cB, 16032, .inl hf)), (bh, .inl (cI, 500, .inl bf)), (b_y, .inl (cB, 290000, .inl f)), (rr, .inr (7, [.ref mb, rr_digest, rr_size, rr_version, rr_digestVersion])), (mb, .inl (cL, 8, .inr (.inl mw)))] H := hP
            have hD : va_D A [(h, .inr (3, [.ref sk, it_changes, it_lines, it_sha, it_form, it_named, it_linesOfFile, it_nextFile, it_nextLine])), (fr, .inl (cI, 502, .inl frf)), (fdA, .inl (cI, 502, .inl fdf)), (dpA, .inl (cI, 8400, .inl (upd dp (F + k) (nI (Bh ii))))), (sk, .inr (9, [.ref b_y, .ref fr, .ref fdA, sk_firstChange, .ref dpA, .ref hs, .ref bh, sk_leansOn, sk_leantBy, sk_changes, sk_lines, .int (nI P)])), (hs, .inl (cB, 16032, .inl hf)), (bh, .inl (cI, 500, .inl bf)), (b_y, .inl (cB, 290000, .inl f)), (rr, .inr (7, [.ref mb, rr_digest, rr_size, rr_version, rr_digestVersion])), (mb, .inl (cL, 8, .inr (.inl mw)))] := hD
            refine lv_iinc (v := nI (k + 1)) (lv' := [(5, .int (nI (k + 1))), (6, .int (nI (Bh ii))), (0, .ref h), (1, .ref rr), (2, .int (nI s0)), (3, .int (nI (tw f s0))), (4, .int (nI F))]) hx hb d_In_findDependencies_113 hl (k := 6) rfl (by exact nI_add _ _) (by decide) rfl (fun ls hl => ?_)
            refine lv_goto (tgt := 45) hx hb d_In_findDependencies_116 (by decide) ?_
            exact ih_45 (k + 1) (upd dp (F + k) (nI (Bh ii))) _ _ _ (by omega) (by omega) (fun j z => if h9 : j = k then h9 ▸ ⟨Bh ii, hisP, hh⟩ else hok j (by omega)) (fun j z => if h9 : j = k then (by subst h9; rw [upd_eq, pQ_eq gU hisP]) else (upd_ne _ (by omega)).trans (hdp j (by omega))) (fun j z => (upd_ne _ (by omega)).trans (hfr j z)) (hP.sub [0, 4, 7, 1, 2, 3, 5, 6, 8, 9] rfl) (hD.sub [0, 4, 7, 1, 2, 3, 5, 6, 8, 9] (by decide) rfl) hS (lv_sub hl [2, 3, 4, 5, 6, 0] rfl)
          · have hP : va_P (dC, dI) classes [(h, .inr (3, [.ref sk, it_changes, it_lines, it_sha, it_form, it_named, it_linesOfFile, it_nextFile, it_nextLine])), (fr, .inl (cI, 502, .inl frf)), (fdA, .inl (cI, 502, .inl fdf)), (dpA, .inl (cI, 8400, .inl dp)), (sk, .inr (9, [.ref b_y, .ref fr, .ref fdA, sk_firstChange, .ref dpA, .ref hs, .ref bh, sk_leansOn, sk_leantBy, sk_changes, sk_lines, .int (nI P)])), (hs, .inl (cB, 16032, .inl hf)), (bh, .inl (cI, 500, .inl bf)), (b_y, .inl (cB, 290000, .inl f)), (rr, .inr (7, [.ref mb, rr_digest, rr_size, rr_version, rr_digestVersion])), (mb, .inl (cL, 8, .inr (.inl mw)))] H := hP
            have hD : va_D A [(h, .inr (3, [.ref sk, it_changes, it_lines, it_sha, it_form, it_named, it_linesOfFile, it_nextFile, it_nextLine])), (fr, .inl (cI, 502, .inl frf)), (fdA, .inl (cI, 502, .inl fdf)), (dpA, .inl (cI, 8400, .inl dp)), (sk, .inr (9, [.ref b_y, .ref fr, .ref fdA, sk_firstChange, .ref dpA, .ref hs, .ref bh, sk_leansOn, sk_leantBy, sk_changes, sk_lines, .int (nI P)])), (hs, .inl (cB, 16032, .inl hf)), (bh, .inl (cI, 500, .inl bf)), (b_y, .inl (cB, 290000, .inl f)), (rr, .inr (7, [.ref mb, rr_digest, rr_size, rr_version, rr_digestVersion])), (mb, .inl (cL, 8, .inr (.inl mw)))] := hD
            have hno : ¬ ∀ j, j < tw f s0 → depOk hf Bh P f mw s0 j := fun z => by
              obtain ⟨q, h1, h2⟩ := z k n_48
              rw [isP.uniq gU h1 hisP] at h2
              exact hh h2
            refine lv_if_eq (tgt := 96) hx hb d_In_findDependencies_82 (by decide) (fun _ => ?_) (fun c_82 => absurd (by decide) c_82)
            refine lv_iconst (v := 0) hx hb d_In_findDependencies_96 (by decide) ?_
            have hP := hP.sub (ws' := [(h, .inr (3, [.ref sk, it_changes, it_lines, it_sha, it_form, it_named, it_linesOfFile, it_nextFile, it_nextLine])), (sk, .inr (9, [.ref b_y, .ref fr, .ref fdA, sk_firstChange, .ref dpA, .ref hs, .ref bh, sk_leansOn, sk_leantBy, sk_changes, sk_lines, .int (nI P)])), (b_y, .inl (cB, 290000, .inl f)), (fr, .inl (cI, 502, .inl frf)), (fdA, .inl (cI, 502, .inl fdf)), (dpA, .inl (cI, 8400, .inl dp)), (hs, .inl (cB, 16032, .inl hf)), (bh, .inl (cI, 500, .inl bf)), (rr, .inr (7, [.ref mb, rr_digest, rr_size, rr_version, rr_digestVersion])), (mb, .inl (cL, 8, .inr (.inl mw)))]) [0, 4, 7, 1, 2, 3, 5, 6, 8, 9] rfl
            have hD := hD.sub (ws' := [(h, .inr (3, [.ref sk, it_changes, it_lines, it_sha, it_form, it_named, it_linesOfFile, it_nextFile, it_nextLine])), (sk, .inr (9, [.ref b_y, .ref fr, .ref fdA, sk_firstChange, .ref dpA, .ref hs, .ref bh, sk_leansOn, sk_leantBy, sk_changes, sk_lines, .int (nI P)])), (b_y, .inl (cB, 290000, .inl f)), (fr, .inl (cI, 502, .inl frf)), (fdA, .inl (cI, 502, .inl fdf)), (dpA, .inl (cI, 8400, .inl dp)), (hs, .inl (cB, 16032, .inl hf)), (bh, .inl (cI, 500, .inl bf)), (rr, .inr (7, [.ref mb, rr_digest, rr_size, rr_version, rr_digestVersion])), (mb, .inl (cL, 8, .inr (.inl mw)))]) [0, 4, 7, 1, 2, 3, 5, 6, 8, 9] (by decide) rfl
            rw [← hQe]
            exact W.zret (v := 0) hx hb hr nz_b0 (fun t ht hW => ⟨⟨_, (dp, fdf), rfl, ⟨Or.inr ⟨rfl, hno⟩, hfr, fun _ _ => rfl⟩, by rw [ht]; exact hP, va_K.moved hW.alike hK, hD⟩, hS.F ht⟩) hS.2.2 d_In_findDependencies_97
  exact loop_45 _ 0 dpf _ _ _ (Nat.lt_succ_self _) (Nat.zero_le _) (fun j z => absurd z (Nat.not_lt_zero _)) (fun j z => absurd z (Nat.not_lt_zero _)) (fun _ _ => rfl) (hP.sub [0, 8, 9, 1, 2, 3, 4, 5, 6, 7] rfl) (hD.sub [0, 8, 9, 1, 2, 3, 4, 5, 6, 7] (by decide) rfl) hS (lv_sub hl [4, 5, 3, 2, 1, 0] rfl)
