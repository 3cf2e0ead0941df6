/-! 72.full.lean.txt -/
theorem gw_161 : (Jvm.Cond.fieldLink "PatchStore$Intake" (212 : Nat) "PatchStore$Lines" "ofFile" "[I") ∈ xg_1 := xg_s1 161 rfl rfl
theorem gw_945 : (Jvm.Cond.constant "PatchStore$Intake" (208 : Nat) (200000 : Int32)) ∈ xg_1 := xg_s4 225 rfl rfl
theorem gw_946 : (Jvm.Cond.methodLink "PatchStore$Intake" (209 : Nat) ({ cls := "PatchStore$Intake", name := "isAnyFileFull", desc := "()Z" } : Jvm.MethodName)) ∈ xg_1 := xg_s4 226 rfl rfl
theorem gw_948 : (Jvm.Cond.instanceMethod ({ cls := "PatchStore$Intake", name := "isAnyFileFull", desc := "()Z" } : Jvm.MethodName)) ∈ xg_1 := xg_s4 228 rfl rfl
theorem gw_949 : (Jvm.Cond.code ({ cls := "PatchStore$Intake", name := "isAnyFileFull", desc := "()Z" } : Jvm.MethodName) prog_4_method_16_code (3 : Nat) (Option.some Jvm.ClassFile.FieldType.boolean)) ∈ xg_1 := xg_s4 229 rfl rfl
theorem gw_950 : (Jvm.Cond.methodLink "PatchStore$Intake" (215 : Nat) ({ cls := "java/lang/System", name := "arraycopy", desc := "(Ljava/lang/Object;ILjava/lang/Object;II)V" } : Jvm.MethodName)) ∈ xg_1 := xg_s4 230 rfl rfl
def y_In_isAnyFileFull : MethodName := ⟨"PatchStore$Intake", "isAnyFileFull", "()Z"⟩
abbrev c_In_isAnyFileFull : Cond := (Jvm.Cond.code ({ cls := "PatchStore$Intake", name := "isAnyFileFull", desc := "()Z" } : Jvm.MethodName) prog_4_method_16_code (3 : Nat) (Option.some Jvm.ClassFile.FieldType.boolean))
abbrev ws_In_isAnyFileFull : List Cond := c_In_isAnyFileFull :: xg_1
theorem d_In_isAnyFileFull_0 : decode prog_4_method_16_code 0 = .ok (.aload_n 0, 1) := by decide +kernel
theorem d_In_isAnyFileFull_1 : decode prog_4_method_16_code 1 = .ok (.getfield 33, 3) := by decide +kernel
theorem d_In_isAnyFileFull_4 : decode prog_4_method_16_code 4 = .ok (.getfield 212, 3) := by decide +kernel
theorem d_In_isAnyFileFull_7 : decode prog_4_method_16_code 7 = .ok (.iconst 0, 1) := by decide +kernel
theorem d_In_isAnyFileFull_8 : decode prog_4_method_16_code 8 = .ok (.aload_n 0, 1) := by decide +kernel
theorem d_In_isAnyFileFull_9 : decode prog_4_method_16_code 9 = .ok (.getfield 15, 3) := by decide +kernel
theorem d_In_isAnyFileFull_12 : decode prog_4_method_16_code 12 = .ok (.iconst 0, 1) := by decide +kernel
theorem d_In_isAnyFileFull_13 : decode prog_4_method_16_code 13 = .ok (.sipush 200, 3) := by decide +kernel
theorem d_In_isAnyFileFull_16 : decode prog_4_method_16_code 16 = .ok (.invokestatic 215, 3) := by decide +kernel
theorem d_In_isAnyFileFull_19 : decode prog_4_method_16_code 19 = .ok (.aload_n 0, 1) := by decide +kernel
theorem d_In_isAnyFileFull_20 : decode prog_4_method_16_code 20 = .ok (.getfield 18, 3) := by decide +kernel
theorem d_In_isAnyFileFull_23 : decode prog_4_method_16_code 23 = .ok (.getfield 151, 3) := by decide +kernel
theorem d_In_isAnyFileFull_26 : decode prog_4_method_16_code 26 = .ok (.aload_n 0, 1) := by decide +kernel
theorem d_In_isAnyFileFull_27 : decode prog_4_method_16_code 27 = .ok (.getfield 18, 3) := by decide +kernel
theorem d_In_isAnyFileFull_30 : decode prog_4_method_16_code 30 = .ok (.getfield 84, 3) := by decide +kernel
theorem d_In_isAnyFileFull_33 : decode prog_4_method_16_code 33 = .ok (.iaload, 1) := by decide +kernel
theorem d_In_isAnyFileFull_34 : decode prog_4_method_16_code 34 = .ok (.istore_n 1, 1) := by decide +kernel
theorem d_In_isAnyFileFull_35 : decode prog_4_method_16_code 35 = .ok (.iload_n 1, 1) := by decide +kernel
theorem d_In_isAnyFileFull_36 : decode prog_4_method_16_code 36 = .ok (.aload_n 0, 1) := by decide +kernel
theorem d_In_isAnyFileFull_37 : decode prog_4_method_16_code 37 = .ok (.getfield 18, 3) := by decide +kernel
theorem d_In_isAnyFileFull_40 : decode prog_4_method_16_code 40 = .ok (.getfield 151, 3) := by decide +kernel
theorem d_In_isAnyFileFull_43 : decode prog_4_method_16_code 43 = .ok (.aload_n 0, 1) := by decide +kernel
theorem d_In_isAnyFileFull_44 : decode prog_4_method_16_code 44 = .ok (.getfield 18, 3) := by decide +kernel
theorem d_In_isAnyFileFull_47 : decode prog_4_method_16_code 47 = .ok (.getfield 84, 3) := by decide +kernel
theorem d_In_isAnyFileFull_50 : decode prog_4_method_16_code 50 = .ok (.iconst 1, 1) := by decide +kernel
theorem d_In_isAnyFileFull_51 : decode prog_4_method_16_code 51 = .ok (.iadd, 1) := by decide +kernel
theorem d_In_isAnyFileFull_52 : decode prog_4_method_16_code 52 = .ok (.iaload, 1) := by decide +kernel
theorem d_In_isAnyFileFull_53 : decode prog_4_method_16_code 53 = .ok (.if_icmp .ge 69, 3) := by decide +kernel
theorem d_In_isAnyFileFull_56 : decode prog_4_method_16_code 56 = .ok (.aload_n 0, 1) := by decide +kernel
theorem d_In_isAnyFileFull_57 : decode prog_4_method_16_code 57 = .ok (.getfield 18, 3) := by decide +kernel
theorem d_In_isAnyFileFull_60 : decode prog_4_method_16_code 60 = .ok (.iload_n 1, 1) := by decide +kernel
theorem d_In_isAnyFileFull_61 : decode prog_4_method_16_code 61 = .ok (.invokevirtual 205, 3) := by decide +kernel
theorem d_In_isAnyFileFull_64 : decode prog_4_method_16_code 64 = .ok (.iconst 2, 1) := by decide +kernel
theorem d_In_isAnyFileFull_65 : decode prog_4_method_16_code 65 = .ok (.if_icmp .ne 51, 3) := by decide +kernel
theorem d_In_isAnyFileFull_68 : decode prog_4_method_16_code 68 = .ok (.aload_n 0, 1) := by decide +kernel
theorem d_In_isAnyFileFull_69 : decode prog_4_method_16_code 69 = .ok (.getfield 28, 3) := by decide +kernel
theorem d_In_isAnyFileFull_72 : decode prog_4_method_16_code 72 = .ok (.getfield 157, 3) := by decide +kernel
theorem d_In_isAnyFileFull_75 : decode prog_4_method_16_code 75 = .ok (.iload_n 1, 1) := by decide +kernel
theorem d_In_isAnyFileFull_76 : decode prog_4_method_16_code 76 = .ok (.iaload, 1) := by decide +kernel
theorem d_In_isAnyFileFull_77 : decode prog_4_method_16_code 77 = .ok (.istore_n 2, 1) := by decide +kernel
theorem d_In_isAnyFileFull_78 : decode prog_4_method_16_code 78 = .ok (.aload_n 0, 1) := by decide +kernel
theorem d_In_isAnyFileFull_79 : decode prog_4_method_16_code 79 = .ok (.getfield 15, 3) := by decide +kernel
theorem d_In_isAnyFileFull_82 : decode prog_4_method_16_code 82 = .ok (.iload_n 2, 1) := by decide +kernel
theorem d_In_isAnyFileFull_83 : decode prog_4_method_16_code 83 = .ok (.dup2, 1) := by decide +kernel
theorem d_In_isAnyFileFull_84 : decode prog_4_method_16_code 84 = .ok (.iaload, 1) := by decide +kernel
theorem d_In_isAnyFileFull_85 : decode prog_4_method_16_code 85 = .ok (.aload_n 0, 1) := by decide +kernel
theorem d_In_isAnyFileFull_86 : decode prog_4_method_16_code 86 = .ok (.getfield 18, 3) := by decide +kernel
theorem d_In_isAnyFileFull_89 : decode prog_4_method_16_code 89 = .ok (.aload_n 0, 1) := by decide +kernel
theorem d_In_isAnyFileFull_90 : decode prog_4_method_16_code 90 = .ok (.getfield 18, 3) := by decide +kernel
theorem d_In_isAnyFileFull_93 : decode prog_4_method_16_code 93 = .ok (.iload_n 1, 1) := by decide +kernel
theorem d_In_isAnyFileFull_94 : decode prog_4_method_16_code 94 = .ok (.invokevirtual 198, 3) := by decide +kernel
theorem d_In_isAnyFileFull_97 : decode prog_4_method_16_code 97 = .ok (.invokevirtual 91, 3) := by decide +kernel
theorem d_In_isAnyFileFull_100 : decode prog_4_method_16_code 100 = .ok (.iadd, 1) := by decide +kernel
theorem d_In_isAnyFileFull_101 : decode prog_4_method_16_code 101 = .ok (.iastore, 1) := by decide +kernel
theorem d_In_isAnyFileFull_102 : decode prog_4_method_16_code 102 = .ok (.aload_n 0, 1) := by decide +kernel
theorem d_In_isAnyFileFull_103 : decode prog_4_method_16_code 103 = .ok (.getfield 15, 3) := by decide +kernel
theorem d_In_isAnyFileFull_106 : decode prog_4_method_16_code 106 = .ok (.iload_n 2, 1) := by decide +kernel
theorem d_In_isAnyFileFull_107 : decode prog_4_method_16_code 107 = .ok (.iaload, 1) := by decide +kernel
theorem d_In_isAnyFileFull_108 : decode prog_4_method_16_code 108 = .ok (.sipush 400, 3) := by decide +kernel
theorem d_In_isAnyFileFull_111 : decode prog_4_method_16_code 111 = .ok (.if_icmp .le 5, 3) := by decide +kernel
theorem d_In_isAnyFileFull_114 : decode prog_4_method_16_code 114 = .ok (.iconst 1, 1) := by decide +kernel
theorem d_In_isAnyFileFull_115 : decode prog_4_method_16_code 115 = .ok (.ireturn, 1) := by decide +kernel
theorem d_In_isAnyFileFull_116 : decode prog_4_method_16_code 116 = .ok (.iinc 1 1, 3) := by decide +kernel
theorem d_In_isAnyFileFull_119 : decode prog_4_method_16_code 119 = .ok (.goto (-84), 3) := by decide +kernel
theorem d_In_isAnyFileFull_122 : decode prog_4_method_16_code 122 = .ok (.iconst 0, 1) := by decide +kernel
theorem d_In_isAnyFileFull_123 : decode prog_4_method_16_code 123 = .ok (.ireturn, 1) := by decide +kernel
def y_In_isFull : MethodName := ⟨"PatchStore$Intake", "isFull", "()Z"⟩
abbrev c_In_isFull : Cond := (Jvm.Cond.code ({ cls := "PatchStore$Intake", name := "isFull", desc := "()Z" } : Jvm.MethodName) prog_4_method_15_code (1 : Nat) (Option.some Jvm.ClassFile.FieldType.boolean))
abbrev ws_In_isFull : List Cond := c_In_isFull :: xg_1
theorem d_In_isFull_0 : decode prog_4_method_15_code 0 = .ok (.aload_n 0, 1) := by decide +kernel
theorem d_In_isFull_1 : decode prog_4_method_15_code 1 = .ok (.getfield 18, 3) := by decide +kernel
theorem d_In_isFull_4 : decode prog_4_method_15_code 4 = .ok (.getfield 84, 3) := by decide +kernel
theorem d_In_isFull_7 : decode prog_4_method_15_code 7 = .ok (.sipush 500, 3) := by decide +kernel
theorem d_In_isFull_10 : decode prog_4_method_15_code 10 = .ok (.if_icmp .ge 52, 3) := by decide +kernel
theorem d_In_isFull_13 : decode prog_4_method_15_code 13 = .ok (.aload_n 0, 1) := by decide +kernel
theorem d_In_isFull_14 : decode prog_4_method_15_code 14 = .ok (.getfield 18, 3) := by decide +kernel
theorem d_In_isFull_17 : decode prog_4_method_15_code 17 = .ok (.getfield 88, 3) := by decide +kernel
theorem d_In_isFull_20 : decode prog_4_method_15_code 20 = .ok (.aload_n 0, 1) := by decide +kernel
theorem d_In_isFull_21 : decode prog_4_method_15_code 21 = .ok (.getfield 18, 3) := by decide +kernel
theorem d_In_isFull_24 : decode prog_4_method_15_code 24 = .ok (.getfield 84, 3) := by decide +kernel
theorem d_In_isFull_27 : decode prog_4_method_15_code 27 = .ok (.iconst 1, 1) := by decide +kernel
theorem d_In_isFull_28 : decode prog_4_method_15_code 28 = .ok (.iadd, 1) := by decide +kernel
theorem d_In_isFull_29 : decode prog_4_method_15_code 29 = .ok (.iaload, 1) := by decide +kernel
theorem d_In_isFull_30 : decode prog_4_method_15_code 30 = .ok (.ldc 208, 2) := by decide +kernel
theorem d_In_isFull_32 : decode prog_4_method_15_code 32 = .ok (.if_icmp .gt 30, 3) := by decide +kernel
theorem d_In_isFull_35 : decode prog_4_method_15_code 35 = .ok (.aload_n 0, 1) := by decide +kernel
theorem d_In_isFull_36 : decode prog_4_method_15_code 36 = .ok (.getfield 140, 3) := by decide +kernel
theorem d_In_isFull_39 : decode prog_4_method_15_code 39 = .ok (.sipush 200, 3) := by decide +kernel
theorem d_In_isFull_42 : decode prog_4_method_15_code 42 = .ok (.if_icmp .gt 20, 3) := by decide +kernel
theorem d_In_isFull_45 : decode prog_4_method_15_code 45 = .ok (.aload_n 0, 1) := by decide +kernel
theorem d_In_isFull_46 : decode prog_4_method_15_code 46 = .ok (.getfield 148, 3) := by decide +kernel
theorem d_In_isFull_49 : decode prog_4_method_15_code 49 = .ok (.sipush 4000, 3) := by decide +kernel
theorem d_In_isFull_52 : decode prog_4_method_15_code 52 = .ok (.if_icmp .gt 10, 3) := by decide +kernel
theorem d_In_isFull_55 : decode prog_4_method_15_code 55 = .ok (.aload_n 0, 1) := by decide +kernel
theorem d_In_isFull_56 : decode prog_4_method_15_code 56 = .ok (.invokevirtual 209, 3) := by decide +kernel
theorem d_In_isFull_59 : decode prog_4_method_15_code 59 = .ok (.ifCond .eq 7, 3) := by decide +kernel
theorem d_In_isFull_62 : decode prog_4_method_15_code 62 = .ok (.iconst 1, 1) := by decide +kernel
theorem d_In_isFull_63 : decode prog_4_method_15_code 63 = .ok (.goto 4, 3) := by decide +kernel
theorem d_In_isFull_66 : decode prog_4_method_15_code 66 = .ok (.iconst 0, 1) := by decide +kernel
theorem d_In_isFull_67 : decode prog_4_method_15_code 67 = .ok (.ireturn, 1) := by decide +kernel
theorem vcp_in {α : Type} (f g : Nat → α) {sp dp n k : Nat} (h1 : dp ≤ k) (h2 : k < dp + n) : va_cpy f g sp dp n k = f (sp + (k - dp)) := if_pos ⟨h1, h2⟩
theorem vcp_out {α : Type} (f g : Nat → α) {sp dp n k : Nat} (h : ¬ (dp ≤ k ∧ k < dp + n)) : va_cpy f g sp dp n k = g k := if_neg h
/-- the lines of each file, with those of the first j changes of the candidate -/
def lcs (f : Nat → Int32) (CA CF : Nat → Nat) (c0 : Nat) : Nat → (Nat → Nat) → Nat → Nat
  | 0, g => g
  | j + 1, g => if f (CA (c0 + j)) = 2 then upN (lcs f CA CF c0 j g) (CF (c0 + j)) (lcs f CA CF c0 j g (CF (c0 + j)) + tw f (lnAt f (CA (c0 + j)))) else lcs f CA CF c0 j g
theorem lcs_ne {f : Nat → Int32} {CA CF g : Nat → Nat} {c0 j : Nat} (h : ¬ f (CA (c0 + j)) = 2) : lcs f CA CF c0 (j + 1) g = lcs f CA CF c0 j g := if_neg h
theorem lcs_eq {f : Nat → Int32} {CA CF g : Nat → Nat} {c0 j : Nat} (h : f (CA (c0 + j)) = 2) : lcs f CA CF c0 (j + 1) g = upN (lcs f CA CF c0 j g) (CF (c0 + j)) (lcs f CA CF c0 j g (CF (c0 + j)) + tw f (lnAt f (CA (c0 + j)))) := if_pos h
theorem lcs_at {f : Nat → Int32} {CA CF g : Nat → Nat} {c0 j : Nat} (h : f (CA (c0 + j)) = 2) : lcs f CA CF c0 (j + 1) g (CF (c0 + j)) = lcs f CA CF c0 j g (CF (c0 + j)) + tw f (lnAt f (CA (c0 + j))) := by rw [lcs_eq h, upN_eq]
theorem lcs_up {f lfu : Nat → Int32} {CA CF g : Nat → Nat} {c0 j N B : Nat} (h : f (CA (c0 + j)) = 2) (h1 : ∀ i, i < N → lfu i = nI (lcs f CA CF c0 j g i) ∧ lcs f CA CF c0 j g i ≤ B) (h2 : lcs f CA CF c0 j g (CF (c0 + j)) + tw f (lnAt f (CA (c0 + j))) ≤ B) : ∀ i, i < N → upd lfu (CF (c0 + j)) (nI (lcs f CA CF c0 j g (CF (c0 + j)) + tw f (lnAt f (CA (c0 + j))))) i = nI (lcs f CA CF c0 (j + 1) g i) ∧ lcs f CA CF c0 (j + 1) g i ≤ B := by
  intro i hi
  rw [lcs_eq h]
  by_cases z : i = CF (c0 + j)
  · subst z
    rw [upd_eq, upN_eq]
    exact ⟨rfl, h2⟩
  · rw [upd_ne _ z, upN_ne _ z]
    exact h1 i hi
/-- a file has too many lines -/
def ffR (f : Nat → Int32) (CA CF : Nat → Nat) (c0 T : Nat) (LO : Nat → Nat) : Prop := ∃ j, j < T ∧ f (CA (c0 + j)) = 2 ∧ 400 < lcs f CA CF c0 (j + 1) LO (CF (c0 + j))
/-- the stock has no room for the candidate -/
def fuR (f : Nat → Int32) (CA CF : Nat → Nat) (c0 T : Nat) (LO : Nat → Nat) (P en NF NL : Nat) : Prop := 500 ≤ P ∨ 200000 < en ∨ 200 < NF ∨ 4000 < NL ∨ ffR f CA CF c0 T LO
set_option maxHeartbeats 4000000 in
set_option maxRecDepth 100000 in
/-- whether a file has too many lines -/
theorem m_In_isAnyFileFull (l : Launch) (dC : Nat → ClassId) (dI : Nat → Nat → Nat) (cI cB cL cZ cR : ClassId) (h sk b_y fcA ch cat cfA ln ofA lfA : Nat) (it_sha it_form it_named it_nextFile it_nextLine sk_from sk_firstDependency sk_dependencies sk_hashes sk_byHash sk_leansOn sk_leantBy sk_lines ch_patch ch_firstLine ch_adds ch_files ln_at ln_length ln_change ln_place ln_up ln_down ln_total : Value) (f fcf ca cff off lff : Nat → Int32) (CA CF LO : Nat → Nat) (P c0 T : Nat) (sz : Nat) (hP5 : P ≤ 500) (hF0 : fcf P = nI c0) (gT : fcf (P + 1) = nI (c0 + T)) (hT : c0 + T ≤ 38000) (gA : ∀ i, c0 ≤ i → i < c0 + T → ca i = nI (CA i) ∧ CA i + 5 < 290000) (gI : ∀ i, c0 ≤ i → i < c0 + T → f (CA i) = 2 → plEnd f (CA i + 5) < 290000 ∧ lnAt f (CA i) + 1 < 290000) (gF : ∀ i, i < T → f (CA (c0 + i)) = 2 → cff (c0 + i) = nI (CF (c0 + i)) ∧ CF (c0 + i) < 200) (gO : ∀ i, i < 200 → off i = nI (LO i) ∧ LO i ≤ 400) : Met l y_In_isAnyFileFull ws_In_isAnyFileFull ({ frames := 3, cells := 0, slots := 0, locals := 160 }) (xw_Pc dC dI [(cI, .int), (cB, .byte), (cL, .long), (cZ, .boolean), (cR, .object "PatchStore$Repository")] [.ref h] [(h, .inr (3, [.ref sk, .ref ch, .ref ln, it_sha, it_form, it_named, .ref lfA, it_nextFile, it_nextLine])), (sk, .inr (9, [.ref b_y, sk_from, sk_firstDependency, .ref fcA, sk_dependencies, sk_hashes, sk_byHash, sk_leansOn, sk_leantBy, .ref ch, sk_lines, .int (nI P)])), (b_y, .inl (cB, 290000, .inl f)), (fcA, .inl (cI, 502, .inl fcf)), (ch, .inr (1, [.ref cat, ch_patch, .ref cfA, ch_firstLine, ch_adds, ch_files])), (cat, .inl (cI, 38000, .inl ca)), (cfA, .inl (cI, 38000, .inl cff)), (ln, .inr (4, [ln_at, ln_length, ln_change, ln_place, ln_up, ln_down, .ref ofA, ln_total])), (ofA, .inl (cI, 200, .inl off)), (lfA, .inl (cI, 200, .inl lff))] sz) (va_Qi (fun (r : Int32) (u : Nat → Int32) => (r = 1 ∧ ffR f CA CF c0 T LO) ∨ (r = 0 ∧ ¬ ffR f CA CF c0 T LO)) (fun u t => xw_B dC dI [(cI, .int), (cB, .byte), (cL, .long), (cZ, .boolean), (cR, .object "PatchStore$Repository")] (va_A [(h, .inr (3, [.ref sk, .ref ch, .ref ln, it_sha, it_form, it_named, .ref lfA, it_nextFile, it_nextLine])), (sk, .inr (9, [.ref b_y, sk_from, sk_firstDependency, .ref fcA, sk_dependencies, sk_hashes, sk_byHash, sk_leansOn, sk_leantBy, .ref ch, sk_lines, .int (nI P)])), (b_y, .inl (cB, 290000, .inl f)), (fcA, .inl (cI, 502, .inl fcf)), (ch, .inr (1, [.ref cat, ch_patch, .ref cfA, ch_firstLine, ch_adds, ch_files])), (cat, .inl (cI, 38000, .inl ca)), (cfA, .inl (cI, 38000, .inl cff)), (ln, .inr (4, [ln_at, ln_length, ln_change, ln_place, ln_up, ln_down, .ref ofA, ln_total])), (ofA, .inl (cI, 200, .inl off)), (lfA, .inl (cI, 200, .inl lff))] sz) [(h, .inr (3, [.ref sk, .ref ch, .ref ln, it_sha, it_form, it_named, .ref lfA, it_nextFile, it_nextLine])), (sk, .inr (9, [.ref b_y, sk_from, sk_firstDependency, .ref fcA, sk_dependencies, sk_hashes, sk_byHash, sk_leansOn, sk_leantBy, .ref ch, sk_lines, .int (nI P)])), (b_y, .inl (cB, 290000, .inl f)), (fcA, .inl (cI, 502, .inl fcf)), (ch, .inr (1, [.ref cat, ch_patch, .ref cfA, ch_firstLine, ch_adds, ch_files])), (cat, .inl (cI, 38000, .inl ca)), (cfA, .inl (cI, 38000, .inl cff)), (ln, .inr (4, [ln_at, ln_length, ln_change, ln_place, ln_up, ln_down, .ref ofA, ln_total])), (ofA, .inl (cI, 200, .inl off)), (lfA, .inl (cI, 200, .inl u))] t) (va_A [(h, .inr (3, [.ref sk, .ref ch, .ref ln, it_sha, it_form, it_named, .ref lfA, it_nextFile, it_nextLine])), (sk, .inr (9, [.ref b_y, sk_from, sk_firstDependency, .ref fcA, sk_dependencies, sk_hashes, sk_byHash, sk_leansOn, sk_leantBy, .ref ch, sk_lines, .int (nI P)])), (b_y, .inl (cB, 290000, .inl f)), (fcA, .inl (cI, 502, .inl fcf)), (ch, .inr (1, [.ref cat, ch_patch, .ref cfA, ch_firstLine, ch_adds, ch_files])), (cat, .inl (cI, 38000, .inl ca)), (cfA, .inl (cI, 38000, .inl cff)), (ln, .inr (4, [ln_at, ln_length, ln_change, ln_place, ln_up, ln_down, .ref ofA, ln_total])), (ofA, .inl (cI, 200, .inl off)), (lfA, .inl (cI, 200, .inl lff))] sz)) 0 0 (va_A [(h, .inr (3, [.ref sk, .ref ch, .ref ln, it_sha, it_form, it_named, .ref lfA, it_nextFile, it_nextLine])), (sk, .inr (9, [.ref b_y, sk_from, sk_firstDependency, .ref fcA, sk_dependencies, sk_hashes, sk_byHash, sk_leansOn, sk_leantBy, .ref ch, sk_lines, .int (nI P)])), (b_y, .inl (cB, 290000, .inl f)), (fcA, .inl (cI, 502, .inl fcf)), (ch, .inr (1, [.ref cat, ch_patch, .ref cfA, ch_firstLine, ch_adds, ch_files])), (cat, .inl (cI, 38000, .inl ca)), (cfA, .inl (cI, 38000, .inl cff)), (ln, .inr (4, [ln_at, ln_length, ln_change, ln_place, ln_up, ln_down, .ref ofA, ln_total])), (ofA, .inl (cI, 200, .inl off)), (lfA, .inl (cI, 200, .inl lff))] sz) := by
  refine Met.ofW (cc := prog_4_method_16_code) (maxL := 3) (ret := (Option.some Jvm.ClassFile.FieldType.boolean)) (by decide) rfl ?_
  intro p e s m args below meth c s₁ B hml hv
  obtain ⟨rfl, hsz, hP, hK, hD0⟩ := hv
  have hx := B.exec
  have hb := B.bytes
  have hr := B.returns
  have hts0 := atoms_spec (ws := ws_In_isAnyFileFull) B.pre
  have hts : ∀ w ∈ xg_1, w.before _ s = true := fun w h => hts0 w (List.mem_cons_of_mem _ h)
  have hown : s.vm.findClass "PatchStore$Intake" = some m.cls := findClass_of_methodNamed B.named
  have hlocks := B.notSynchronized
  subst hsz
  have hD := hD0.self (sz := s.heap.size)
  generalize hAe : va_A [(h, .inr (3, [.ref sk, .ref ch, .ref ln, it_sha, it_form, it_named, .ref lfA, it_nextFile, it_nextLine])), (sk, .inr (9, [.ref b_y, sk_from, sk_firstDependency, .ref fcA, sk_dependencies, sk_hashes, sk_byHash, sk_leansOn, sk_leantBy, .ref ch, sk_lines, .int (nI P)])), (b_y, .inl (cB, 290000, .inl f)), (fcA, .inl (cI, 502, .inl fcf)), (ch, .inr (1, [.ref cat, ch_patch, .ref cfA, ch_firstLine, ch_adds, ch_files])), (cat, .inl (cI, 38000, .inl ca)), (cfA, .inl (cI, 38000, .inl cff)), (ln, .inr (4, [ln_at, ln_length, ln_change, ln_place, ln_up, ln_down, .ref ofA, ln_total])), (ofA, .inl (cI, 200, .inl off)), (lfA, .inl (cI, 200, .inl lff))] s.heap.size = A at hD ⊢
  have hA : ∀ q : Nat, s.heap.size ≤ q → A q := fun q h => by rw [← hAe]; exact Or.inr h
  have hS : va_S A s.heap s.heap [] := va_S.rf
  have hl := lv_entry ([.ref h]) (n := 3) (Nat.le_of_ble_eq_true rfl)
  rw [lg_entry_eq]
  generalize (lg_sl ([.ref h]) ++ List.replicate (3 - (lg_sl ([.ref h])).length) Slot.unset).toArray = ls at hl ⊢
  have hl : lv_has ls 3 [(0, .ref h)] := hl
  generalize hQe : MQ _ _ _ _ _ _ _ = Q
  refine lv_aload_n hx hb d_In_isAnyFileFull_0 rfl (lv_at hl 0 rfl) ?_
  refine va_get (D := (dC, dI)) (ci := 3) (v := .ref ln) (C := R_In) (T := F_In) (N := 9) hx hb hts i_In hown hK hP 0 rfl rfl 2 (by decide) (hts _ gw_286) (fun _ h9 => h9) rfl d_In_isAnyFileFull_1 ?_
  refine va_get (D := (dC, dI)) (ci := 4) (v := .ref ofA) (C := R_Li) (T := F_Li) (N := 8) hx hb hts i_Li hown hK hP 7 rfl rfl 6 (by decide) (hts _ gw_161) (fun _ h9 => h9) rfl d_In_isAnyFileFull_4 ?_
  refine lv_iconst (v := 0) hx hb d_In_isAnyFileFull_7 (by decide) ?_
  refine lv_aload_n hx hb d_In_isAnyFileFull_8 rfl (lv_at hl 0 rfl) ?_
  refine va_get (D := (dC, dI)) (ci := 3) (v := .ref lfA) (C := R_In) (T := F_In) (N := 9) hx hb hts i_In hown hK hP 0 rfl rfl 6 (by decide) (hts _ gw_290) (fun _ h9 => h9) rfl d_In_isAnyFileFull_9 ?_
  refine lv_iconst (v := 0) hx hb d_In_isAnyFileFull_12 (by decide) ?_
  refine lv_sipush (v := 200) hx hb d_In_isAnyFileFull_13 (by decide) ?_
  have cp1 : (0 : Int32).toNatClampNeg = 0 := rfl
  have cp2 : (0 : Int32).toNatClampNeg = 0 := rfl
  have cp3 : (200 : Int32).toNatClampNeg = 200 := rfl
  refine va_copyi hx hb (by rw [hml, hl.1]) hown (hts _ gw_950) (hts _ gw_952) (hts _ gw_951) (hts _ gw_23) hK hP hD hS 8 9 0 0 rfl rfl rfl rfl rfl (by decide) (by decide) (by decide) (by rw [cp1, cp3]; omega) (by rw [cp2, cp3]; omega) (by rw [cp1, cp3]; exact fun _ _ => rfl) (Nat.le_of_ble_eq_true rfl) (Nat.le_of_ble_eq_true rfl) d_In_isAnyFileFull_16 (fun H locs hP hD hS => ?_)
  rw [cp1, cp3] at hP hD
  have hP : va_P (dC, dI) classes [(h, .inr (3, [.ref sk, .ref ch, .ref ln, it_sha, it_form, it_named, .ref lfA, it_nextFile, it_nextLine])), (sk, .inr (9, [.ref b_y, sk_from, sk_firstDependency, .ref fcA, sk_dependencies, sk_hashes, sk_byHash, sk_leansOn, sk_leantBy, .ref ch, sk_lines, .int (nI P)])), (b_y, .inl (cB, 290000, .inl f)), (fcA, .inl (cI, 502, .inl fcf)), (ch, .inr (1, [.ref cat, ch_patch, .ref cfA, ch_firstLine, ch_adds, ch_files])), (cat, .inl (cI, 38000, .inl ca)), (cfA, .inl (cI, 38000, .inl cff)), (ln, .inr (4, [ln_at, ln_length, ln_change, ln_place, ln_up, ln_down, .ref ofA, ln_total])), (ofA, .inl (cI, 200, .inl off)), (lfA, .inl (cI, 200, .inl (va_cpy off lff 0 0 200)))] H := hP
  have hD : va_D A [(h, .inr (3, [.ref sk, .ref ch, .ref ln, it_sha, it_form, it_named, .ref lfA, it_nextFile, it_nextLine])), (sk, .inr (9, [.ref b_y, sk_from, sk_firstDependency, .ref fcA, sk_dependencies, sk_hashes, sk_byHash, sk_leansOn, sk_leantBy, .ref ch, sk_lines, .int (nI P)])), (b_y, .inl (cB, 290000, .inl f)), (fcA, .inl (cI, 502, .inl fcf)), (ch, .inr (1, [.ref cat, ch_patch, .ref cfA, ch_firstLine, ch_adds, ch_files])), (cat, .inl (cI, 38000, .inl ca)), (cfA, .inl (cI, 38000, .inl cff)), (ln, .inr (4, [ln_at, ln_length, ln_change, ln_place, ln_up, ln_down, .ref ofA, ln_total])), (ofA, .inl (cI, 200, .inl off)), (lfA, .inl (cI, 200, .inl (va_cpy off lff 0 0 200)))] := hD
  refine lv_aload_n hx hb d_In_isAnyFileFull_19 rfl (lv_at hl 0 rfl) ?_
  refine va_get (D := (dC, dI)) (ci := 3) (v := .ref sk) (C := R_In) (T := F_In) (N := 9) hx hb hts i_In hown hK hP 0 rfl rfl 0 (by decide) (hts _ gw_284) (fun _ h9 => h9) rfl d_In_isAnyFileFull_20 ?_
  refine va_get (D := (dC, dI)) (ci := 9) (v := .ref fcA) (C := R_St) (T := F_St) (N := 12) hx hb hts i_St hown hK hP 1 rfl rfl 3 (by decide) (hts _ gw_200) (fun _ h9 => h9) rfl d_In_isAnyFileFull_23 ?_
  refine lv_aload_n hx hb d_In_isAnyFileFull_26 rfl (lv_at hl 0 rfl) ?_
  refine va_get (D := (dC, dI)) (ci := 3) (v := .ref sk) (C := R_In) (T := F_In) (N := 9) hx hb hts i_In hown hK hP 0 rfl rfl 0 (by decide) (hts _ gw_284) (fun _ h9 => h9) rfl d_In_isAnyFileFull_27 ?_
  refine va_get (D := (dC, dI)) (ci := 9) (v := .int (nI P)) (C := R_St) (T := F_St) (N := 12) hx hb hts i_St hown hK hP 1 rfl rfl 11 (by decide) (hts _ gw_238) (fun _ h9 => h9) rfl d_In_isAnyFileFull_30 ?_
  refine va_iald hx hb hK hP 3 0 rfl rfl (vp_in_nI (by omega) (by omega)) d_In_isAnyFileFull_33 ?_
  rw [show (nI P).toNatClampNeg = P from nI_clamp (by omega)]
  refine lv_topi (fun x_1 ex_1 => ?_)
  obtain rfl : x_1 = nI c0 := by rw [ex_1]; first | done | (exact hF0)
  refine lv_istore_n (lv' := [(1, .int (nI c0)), (0, .ref h)]) hx hb d_In_isAnyFileFull_34 rfl hl (by decide) rfl (fun ls hl => ?_)
  have loop_35 : ∀ (n9 : Nat) (j : Nat) (lfu : Nat → Int32) (H : Heap) (locs : List Loc) (ls : Array Slot), T - j < n9 → (j ≤ T) → (∀ i, i < 200 → lfu i = nI (lcs f CA CF c0 j LO i) ∧ lcs f CA CF c0 j LO i ≤ 400) → (∀ i, i < j → f (CA (c0 + i)) = 2 → lcs f CA CF c0 (i + 1) LO (CF (c0 + i)) ≤ 400) → va_P (dC, dI) classes [(h, .inr (3, [.ref sk, .ref ch, .ref ln, it_sha, it_form, it_named, .ref lfA, it_nextFile, it_nextLine])), (sk, .inr (9, [.ref b_y, sk_from, sk_firstDependency, .ref fcA, sk_dependencies, sk_hashes, sk_byHash, sk_leansOn, sk_leantBy, .ref ch, sk_lines, .int (nI P)])), (b_y, .inl (cB, 290000, .inl f)), (fcA, .inl (cI, 502, .inl fcf)), (ch, .inr (1, [.ref cat, ch_patch, .ref cfA, ch_firstLine, ch_adds, ch_files])), (cat, .inl (cI, 38000, .inl ca)), (cfA, .inl (cI, 38000, .inl cff)), (ln, .inr (4, [ln_at, ln_length, ln_change, ln_place, ln_up, ln_down, .ref ofA, ln_total])), (ofA, .inl (cI, 200, .inl off)), (lfA, .inl (cI, 200, .inl lfu))] H → va_D A [(h, .inr (3, [.ref sk, .ref ch, .ref ln, it_sha, it_form, it_named, .ref lfA, it_nextFile, it_nextLine])), (sk, .inr (9, [.ref b_y, sk_from, sk_firstDependency, .ref fcA, sk_dependencies, sk_hashes, sk_byHash, sk_leansOn, sk_leantBy, .ref ch, sk_lines, .int (nI P)])), (b_y, .inl (cB, 290000, .inl f)), (fcA, .inl (cI, 502, .inl fcf)), (ch, .inr (1, [.ref cat, ch_patch, .ref cfA, ch_firstLine, ch_adds, ch_files])), (cat, .inl (cI, 38000, .inl ca)), (cfA, .inl (cI, 38000, .inl cff)), (ln, .inr (4, [ln_at, ln_length, ln_change, ln_place, ln_up, ln_down, .ref ofA, ln_total])), (ofA, .inl (cI, 200, .inl off)), (lfA, .inl (cI, 200, .inl lfu))] → va_S A s.heap H locs → lv_has ls 3 [(0, .ref h), (1, .int (nI (c0 + j)))] → W p l e (headSpec ws_In_isAnyFileFull ({ frames := 3, cells := 0, slots := 0, locals := 160 })).room s m ([.ref h] : List Value).toArray below meth c H locs 0 0 Q (F0 m 35 ls []) := by
    intro n9
    induction n9 with
    | zero => intro j lfu H locs ls hm; exact absurd hm (Nat.not_lt_zero _)
    | succ n9 ih_35 =>
      intro j lfu H locs ls hm hj h1 h2 hP hD hS hl
      refine lv_iload_n hx hb d_In_isAnyFileFull_35 rfl (lv_at hl 1 rfl) ?_
      refine lv_aload_n hx hb d_In_isAnyFileFull_36 rfl (lv_at hl 0 rfl) ?_
      refine va_get (D := (dC, dI)) (ci := 3) (v := .ref sk) (C := R_In) (T := F_In) (N := 9) hx hb hts i_In hown hK hP 0 rfl rfl 0 (by decide) (hts _ gw_284) (fun _ h9 => h9) rfl d_In_isAnyFileFull_37 ?_
      refine va_get (D := (dC, dI)) (ci := 9) (v := .ref fcA) (C := R_St) (T := F_St) (N := 12) hx hb hts i_St hown hK hP 1 rfl rfl 3 (by decide) (hts _ gw_200) (fun _ h9 => h9) rfl d_In_isAnyFileFull_40 ?_
      refine lv_aload_n hx hb d_In_isAnyFileFull_43 rfl (lv_at hl 0 rfl) ?_
      refine va_get (D := (dC, dI)) (ci := 3) (v := .ref sk) (C := R_In) (T := F_In) (N := 9) hx hb hts i_In hown hK hP 0 rfl rfl 0 (by decide) (hts _ gw_284) (fun _ h9 => h9) rfl d_In_isAnyFileFull_44 ?_
      refine va_get (D := (dC, dI)) (ci := 9) (v := .int (nI P)) (C := R_St) (T := F_St) (N := 12) hx hb hts i_St hown hK hP 1 rfl rfl 11 (by decide) (hts _ gw_238) (fun _ h9 => h9) rfl d_In_isAnyFileFull_47 ?_
      refine lv_iconst (v := 1) hx hb d_In_isAnyFileFull_50 (by decide) ?_
      refine lv_iadd hx hb d_In_isAnyFileFull_51 ?_
      refine lv_topi (fun x_2 ex_2 => ?_)
      obtain rfl : x_2 = nI (P + 1) := by rw [ex_2]; first | done | (exact nI_add _ _)
      refine va_iald hx hb hK hP 3 0 rfl rfl (vp_in_nI (by omega) (by omega)) d_In_isAnyFileFull_52 ?_
      rw [show (nI (P + 1)).toNatClampNeg = (P + 1) from nI_clamp (by omega)]
      refine lv_topi (fun x_3 ex_3 => ?_)
      obtain rfl : x_3 = nI (c0 + T) := by rw [ex_3]; first | done | (exact gT)
      refine lv_icmp_ge (tgt := 122) hx hb d_In_isAnyFileFull_53 (by decide) (fun c_53 => ?_) (fun c_53 => ?_)
      · have n_53 : (c0 + T) ≤ (c0 + j) := (nI_leI (a := (c0 + T)) (b := (c0 + j)) (by omega) (by omega)).mp c_53
        refine lv_iconst (v := 0) hx hb d_In_isAnyFileFull_122 (by decide) ?_
        rw [← hQe]
        exact W.zret (v := 0) hx hb hr nz_b0 (fun t ht hW => ⟨⟨_, lfu, rfl, Or.inr ⟨rfl, fun ⟨q, z1, z2, z3⟩ => absurd (h2 q (by omega) z2) (by omega)⟩, by rw [ht]; exact hP, va_K.moved hW.alike hK, hD⟩, hS.F ht⟩) hS.2.2 d_In_isAnyFileFull_123
      · have n_53 : (c0 + j) < (c0 + T) := Nat.lt_of_not_le (fun z => c_53 ((nI_leI (a := (c0 + T)) (b := (c0 + j)) (by omega) (by omega)).mpr z))
        obtain ⟨hga, hgb⟩ := gA (c0 + j) (by omega) (by omega)
        refine lv_aload_n hx hb d_In_isAnyFileFull_56 rfl (lv_at hl 0 rfl) ?_
        refine va_get (D := (dC, dI)) (ci := 3) (v := .ref sk) (C := R_In) (T := F_In) (N := 9) hx hb hts i_In hown hK hP 0 rfl rfl 0 (by decide) (hts _ gw_284) (fun _ h9 => h9) rfl d_In_isAnyFileFull_57 ?_
        refine lv_iload_n hx hb d_In_isAnyFileFull_60 rfl (lv_at hl 1 rfl) ?_
        have hPc := hP.sub (ws' := [(sk, .inr (9, [.ref b_y, sk_from, sk_firstDependency, .ref fcA, sk_dependencies, sk_hashes, sk_byHash, sk_leansOn, sk_leantBy, .ref ch, sk_lines, .int (nI P)])), (b_y, .inl (cB, 290000, .inl f)), (ch, .inr (1, [.ref cat, ch_patch, .ref cfA, ch_firstLine, ch_adds, ch_files])), (cat, .inl (cI, 38000, .inl ca))]) [1, 2, 4, 5] rfl
        have hDc := hD.sub (ws' := [(sk, .inr (9, [.ref b_y, sk_from, sk_firstDependency, .ref fcA, sk_dependencies, sk_hashes, sk_byHash, sk_leansOn, sk_leantBy, .ref ch, sk_lines, .int (nI P)])), (b_y, .inl (cB, 290000, .inl f)), (ch, .inr (1, [.ref cat, ch_patch, .ref cfA, ch_firstLine, ch_adds, ch_files])), (cat, .inl (cI, 38000, .inl ca))]) [1, 2, 4, 5] (by decide) rfl
        have hFc := va_free (wc := [(sk, .inr (9, [.ref b_y, sk_from, sk_firstDependency, .ref fcA, sk_dependencies, sk_hashes, sk_byHash, sk_leansOn, sk_leantBy, .ref ch, sk_lines, .int (nI P)])), (b_y, .inl (cB, 290000, .inl f)), (ch, .inr (1, [.ref cat, ch_patch, .ref cfA, ch_firstLine, ch_adds, ch_files])), (cat, .inl (cI, 38000, .inl ca))]) hD hS hA [1, 2, 4, 5] rfl
        refine va_calli (va_runV (As := [.int (nI (c0 + j))]) (rest := []) ⟨hx, hb, hml, hown, hts⟩ (m_St_kind l dC dI cI cB cL cZ cR sk b_y ch cat (sk_from) (sk_firstDependency) (.ref fcA) (sk_dependencies) (sk_hashes) (sk_byHash) (sk_leansOn) (sk_leantBy) (sk_lines) (.int (nI P)) (ch_patch) (.ref cfA) (ch_firstLine) (ch_adds) (ch_files) f ca (c0 + j) (CA (c0 + j)) H.size (by omega) hga (by omega)) (cwV 1 hts (xg_V gw_889 gw_890 gw_891 gw_3 gw_892) rfl rfl rfl (by decide +kernel) ⟨Nat.le_of_ble_eq_true rfl, Nat.le_of_ble_eq_true rfl⟩) ⟨xw_blind, va_recv hK hPc (ci := 9) (q0 := 0) rfl rfl, fun U hU hW => ⟨rfl, by rw [hU], by rw [hU]; exact hPc, va_K.moved hW.alike hK, hDc.weaken (fun _ _ _ _ => trivial)⟩⟩ rfl rfl hl.1 rfl (lv_room (Nat.le_of_ble_eq_true rfl)) d_In_isAnyFileFull_61 ⟨Nat.le_of_ble_eq_true rfl, Nat.le_of_ble_eq_true rfl⟩) hS (fun q _ h => hFc q h) hFc (fun r9 u t H1 locs ht hvm hw hB hz1 hk1 hS => ?_)
        obtain ⟨hP1, hK1, hD1⟩ := hB
        rw [ht] at hP1
        obtain ⟨hP, hD⟩ := va_join (wr := [(h, .inr (3, [.ref sk, .ref ch, .ref ln, it_sha, it_form, it_named, .ref lfA, it_nextFile, it_nextLine])), (fcA, .inl (cI, 502, .inl fcf)), (cfA, .inl (cI, 38000, .inl cff)), (ln, .inr (4, [ln_at, ln_length, ln_change, ln_place, ln_up, ln_down, .ref ofA, ln_total])), (ofA, .inl (cI, 200, .inl off)), (lfA, .inl (cI, 200, .inl lfu))]) (w1 := [(sk, .inr (9, [.ref b_y, sk_from, sk_firstDependency, .ref fcA, sk_dependencies, sk_hashes, sk_byHash, sk_leansOn, sk_leantBy, .ref ch, sk_lines, .int (nI P)])), (b_y, .inl (cB, 290000, .inl f)), (ch, .inr (1, [.ref cat, ch_patch, .ref cfA, ch_firstLine, ch_adds, ch_files])), (cat, .inl (cI, 38000, .inl ca))]) hP hD [1, 2, 4, 5] [0, 3, 6, 7, 8, 9] rfl rfl (by decide) (by decide) hk1 hFc hP1 hD1
        generalize H1 = H at hP hS ⊢
        have hP : va_P (dC, dI) classes [(h, .inr (3, [.ref sk, .ref ch, .ref ln, it_sha, it_form, it_named, .ref lfA, it_nextFile, it_nextLine])), (fcA, .inl (cI, 502, .inl fcf)), (cfA, .inl (cI, 38000, .inl cff)), (ln, .inr (4, [ln_at, ln_length, ln_change, ln_place, ln_up, ln_down, .ref ofA, ln_total])), (ofA, .inl (cI, 200, .inl off)), (lfA, .inl (cI, 200, .inl lfu)), (sk, .inr (9, [.ref b_y, sk_from, sk_firstDependency, .ref fcA, sk_dependencies, sk_hashes, sk_byHash, sk_leansOn, sk_leantBy, .ref ch, sk_lines, .int (nI P)])), (b_y, .inl (cB, 290000, .inl f)), (ch, .inr (1, [.ref cat, ch_patch, .ref cfA, ch_firstLine, ch_adds, ch_files])), (cat, .inl (cI, 38000, .inl ca))] H := hP
        have hD : va_D A [(h, .inr (3, [.ref sk, .ref ch, .ref ln, it_sha, it_form, it_named, .ref lfA, it_nextFile, it_nextLine])), (fcA, .inl (cI, 502, .inl fcf)), (cfA, .inl (cI, 38000, .inl cff)), (ln, .inr (4, [ln_at, ln_length, ln_change, ln_place, ln_up, ln_down, .ref ofA, ln_total])), (ofA, .inl (cI, 200, .inl off)), (lfA, .inl (cI, 200, .inl lfu)), (sk, .inr (9, [.ref b_y, sk_from, sk_firstDependency, .ref fcA, sk_dependencies, sk_hashes, sk_byHash, sk_leansOn, sk_leantBy, .ref ch, sk_lines, .int (nI P)])), (b_y, .inl (cB, 290000, .inl f)), (ch, .inr (1, [.ref cat, ch_patch, .ref cfA, ch_firstLine, ch_adds, ch_files])), (cat, .inl (cI, 38000, .inl ca))] := hD
        subst hw
        refine lv_iconst (v := 2) hx hb d_In_isAnyFileFull_64 (by decide) ?_
        refine lv_icmp_ne (tgt := 116) hx hb d_In_isAnyFileFull_65 (by decide) (fun c_65 => ?_) (fun c_65 => ?_)
        · refine lv_iinc (v := nI (c0 + j + 1)) (lv' := [(1, .int (nI (c0 + j + 1))), (0, .ref h)]) hx hb d_In_isAnyFileFull_116 hl (k := 1) rfl (by exact nI_add _ _) (by decide) rfl (fun ls hl => ?_)
          refine lv_goto (tgt := 35) hx hb d_In_isAnyFileFull_119 (by decide) ?_
          exact ih_35 (j + 1) lfu _ _ _ (by omega) (by omega) (fun i z => by rw [lcs_ne c_65]; exact h1 i z) (fun i z q => if e9 : i = j then absurd (e9 ▸ q) c_65 else h2 i (by omega) q) (hP.sub [0, 6, 7, 1, 8, 9, 2, 3, 4, 5] rfl) (hD.sub [0, 6, 7, 1, 8, 9, 2, 3, 4, 5] (by decide) rfl) hS (lv_sub hl [1, 0] rfl)
        · have hgi := gI (c0 + j) (by omega) (by omega) c_65
          obtain ⟨hgf, hgc⟩ := gF j (by omega) c_65
          obtain ⟨hh1, hh2⟩ := h1 _ hgc
          have htw := tw_lt f (lnAt f (CA (c0 + j)))
          refine lv_aload_n hx hb d_In_isAnyFileFull_68 rfl (lv_at hl 0 rfl) ?_
          refine va_get (D := (dC, dI)) (ci := 3) (v := .ref ch) (C := R_In) (T := F_In) (N := 9) hx hb hts i_In hown hK hP 0 rfl rfl 1 (by decide) (hts _ gw_285) (fun _ h9 => h9) rfl d_In_isAnyFileFull_69 ?_
          refine va_get (D := (dC, dI)) (ci := 1) (v := .ref cfA) (C := R_Ch) (T := F_Ch) (N := 6) hx hb hts i_Ch hown hK hP 8 rfl rfl 2 (by decide) (hts _ gw_102) (fun _ h9 => h9) rfl d_In_isAnyFileFull_72 ?_
          refine lv_iload_n hx hb d_In_isAnyFileFull_75 rfl (lv_at hl 1 rfl) ?_
          refine va_iald hx hb hK hP 2 0 rfl rfl (vp_in_nI (by omega) (by omega)) d_In_isAnyFileFull_76 ?_
          rw [show (nI (c0 + j)).toNatClampNeg = (c0 + j) from nI_clamp (by omega)]
          refine lv_topi (fun x_4 ex_4 => ?_)
          obtain rfl : x_4 = nI (CF (c0 + j)) := by rw [ex_4]; first | done | (exact hgf)
          refine lv_istore_n (lv' := [(2, .int (nI (CF (c0 + j)))), (0, .ref h), (1, .int (nI (c0 + j)))]) hx hb d_In_isAnyFileFull_77 rfl hl (by decide) rfl (fun ls hl => ?_)
          refine lv_aload_n hx hb d_In_isAnyFileFull_78 rfl (lv_at hl 1 rfl) ?_
          refine va_get (D := (dC, dI)) (ci := 3) (v := .ref lfA) (C := R_In) (T := F_In) (N := 9) hx hb hts i_In hown hK hP 0 rfl rfl 6 (by decide) (hts _ gw_290) (fun _ h9 => h9) rfl d_In_isAnyFileFull_79 ?_
          refine lv_iload_n hx hb d_In_isAnyFileFull_82 rfl (lv_at hl 0 rfl) ?_
          refine lv_dup2_11 hx hb d_In_isAnyFileFull_83 rfl rfl ?_
          refine va_iald hx hb hK hP 5 0 rfl rfl (vp_in_nI (by omega) (by omega)) d_In_isAnyFileFull_84 ?_
          rw [show (nI (CF (c0 + j))).toNatClampNeg = (CF (c0 + j)) from nI_clamp (by omega)]
          refine lv_topi (fun x_5 ex_5 => ?_)
          obtain rfl : x_5 = nI (lcs f CA CF c0 j LO (CF (c0 + j))) := by rw [ex_5]; first | done | (exact hh1)
          refine lv_aload_n hx hb d_In_isAnyFileFull_85 rfl (lv_at hl 1 rfl) ?_
          refine va_get (D := (dC, dI)) (ci := 3) (v := .ref sk) (C := R_In) (T := F_In) (N := 9) hx hb hts i_In hown hK hP 0 rfl rfl 0 (by decide) (hts _ gw_284) (fun _ h9 => h9) rfl d_In_isAnyFileFull_86 ?_
          refine lv_aload_n hx hb d_In_isAnyFileFull_89 rfl (lv_at hl 1 rfl) ?_
          refine va_get (D := (dC, dI)) (ci := 3) (v := .ref sk) (C := R_In) (T := F_In) (N := 9) hx hb hts i_In hown hK hP 0 rfl rfl 0 (by decide) (hts _ gw_284) (fun _ h9 => h9) rfl d_In_isAnyFileFull_90 ?_
          refine lv_iload_n hx hb d_In_isAnyFileFull_93 rfl (lv_at hl 2 rfl) ?_
          have hPc := hP.sub (ws' := [(sk, .inr (9, [.ref b_y, sk_from, sk_firstDependency, .ref fcA, sk_dependencies, sk_hashes, sk_byHash, sk_leansOn, sk_leantBy, .ref ch, sk_lines, .int (nI P)])), (b_y, .inl (cB, 290000, .inl f)), (ch, .inr (1, [.ref cat, ch_patch, .ref cfA, ch_firstLine, ch_adds, ch_files])), (cat, .inl (cI, 38000, .inl ca))]) [6, 7, 8, 9] rfl
          have hDc := hD.sub (ws' := [(sk, .inr (9, [.ref b_y, sk_from, sk_firstDependency, .ref fcA, sk_dependencies, sk_hashes, sk_byHash, sk_leansOn, sk_leantBy, .ref ch, sk_lines, .int (nI P)])), (b_y, .inl (cB, 290000, .inl f)), (ch, .inr (1, [.ref cat, ch_patch, .ref cfA, ch_firstLine, ch_adds, ch_files])), (cat, .inl (cI, 38000, .inl ca))]) [6, 7, 8, 9] (by decide) rfl
          have hFc := va_free (wc := [(sk, .inr (9, [.ref b_y, sk_from, sk_firstDependency, .ref fcA, sk_dependencies, sk_hashes, sk_byHash, sk_leansOn, sk_leantBy, .ref ch, sk_lines, .int (nI P)])), (b_y, .inl (cB, 290000, .inl f)), (ch, .inr (1, [.ref cat, ch_patch, .ref cfA, ch_firstLine, ch_adds, ch_files])), (cat, .inl (cI, 38000, .inl ca))]) hD hS hA [6, 7, 8, 9] rfl
          refine va_calli (va_runV (As := [.int (nI (c0 + j))]) (rest := [.ref sk, .int (nI (lcs f CA CF c0 j LO (CF (c0 + j)))), .int (nI (CF (c0 + j))), .ref lfA]) ⟨hx, hb, hml, hown, hts⟩ (m_St_linesAt l dC dI cI cB cL cZ cR sk b_y ch cat (sk_from) (sk_firstDependency) (.ref fcA) (sk_dependencies) (sk_hashes) (sk_byHash) (sk_leansOn) (sk_leantBy) (sk_lines) (.int (nI P)) (ch_patch) (.ref cfA) (ch_firstLine) (ch_adds) (ch_files) f ca (c0 + j) (CA (c0 + j)) H.size (by omega) hga hgb hgi.1) (cwV 1 hts (xg_V gw_918 gw_919 gw_920 gw_3 gw_921) rfl rfl rfl (by decide +kernel) ⟨Nat.le_of_ble_eq_true rfl, Nat.le_of_ble_eq_true rfl⟩) ⟨xw_blind, va_recv hK hPc (ci := 9) (q0 := 0) rfl rfl, fun U hU hW => ⟨rfl, by rw [hU], by rw [hU]; exact hPc, va_K.moved hW.alike hK, hDc.weaken (fun _ _ _ _ => trivial)⟩⟩ rfl rfl hl.1 rfl (lv_room (Nat.le_of_ble_eq_true rfl)) d_In_isAnyFileFull_94 ⟨Nat.le_of_ble_eq_true rfl, Nat.le_of_ble_eq_true rfl⟩) hS (fun q _ h => hFc q h) hFc (fun r9 u t H1 locs ht hvm hw hB hz1 hk1 hS => ?_)
          obtain ⟨hP1, hK1, hD1⟩ := hB
          rw [ht] at hP1
          obtain ⟨hP, hD⟩ := va_join (wr := [(h, .inr (3, [.ref sk, .ref ch, .ref ln, it_sha, it_form, it_named, .ref lfA, it_nextFile, it_nextLine])), (fcA, .inl (cI, 502, .inl fcf)), (cfA, .inl (cI, 38000, .inl cff)), (ln, .inr (4, [ln_at, ln_length, ln_change, ln_place, ln_up, ln_down, .ref ofA, ln_total])), (ofA, .inl (cI, 200, .inl off)), (lfA, .inl (cI, 200, .inl lfu))]) (w1 := [(sk, .inr (9, [.ref b_y, sk_from, sk_firstDependency, .ref fcA, sk_dependencies, sk_hashes, sk_byHash, sk_leansOn, sk_leantBy, .ref ch, sk_lines, .int (nI P)])), (b_y, .inl (cB, 290000, .inl f)), (ch, .inr (1, [.ref cat, ch_patch, .ref cfA, ch_firstLine, ch_adds, ch_files])), (cat, .inl (cI, 38000, .inl ca))]) hP hD [6, 7, 8, 9] [0, 1, 2, 3, 4, 5] rfl rfl (by decide) (by decide) hk1 hFc hP1 hD1
          generalize H1 = H at hP hS ⊢
          have hP : va_P (dC, dI) classes [(h, .inr (3, [.ref sk, .ref ch, .ref ln, it_sha, it_form, it_named, .ref lfA, it_nextFile, it_nextLine])), (fcA, .inl (cI, 502, .inl fcf)), (cfA, .inl (cI, 38000, .inl cff)), (ln, .inr (4, [ln_at, ln_length, ln_change, ln_place, ln_up, ln_down, .ref ofA, ln_total])), (ofA, .inl (cI, 200, .inl off)), (lfA, .inl (cI, 200, .inl lfu)), (sk, .inr (9, [.ref b_y, sk_from, sk_firstDependency, .ref fcA, sk_dependencies, sk_hashes, sk_byHash, sk_leansOn, sk_leantBy, .ref ch, sk_lines, .int (nI P)])), (b_y, .inl (cB, 290000, .inl f)), (ch, .inr (1, [.ref cat, ch_patch, .ref cfA, ch_firstLine, ch_adds, ch_files])), (cat, .inl (cI, 38000, .inl ca))] H := hP
          have hD : va_D A [(h, .inr (3, [.ref sk, .ref ch, .ref ln, it_sha, it_form, it_named, .ref lfA, it_nextFile, it_nextLine])), (fcA, .inl (cI, 502, .inl fcf)), (cfA, .inl (cI, 38000, .inl cff)), (ln, .inr (4, [ln_at, ln_length, ln_change, ln_place, ln_up, ln_down, .ref ofA, ln_total])), (ofA, .inl (cI, 200, .inl off)), (lfA, .inl (cI, 200, .inl lfu)), (sk, .inr (9, [.ref b_y, sk_from, sk_firstDependency, .ref fcA, sk_dependencies, sk_hashes, sk_byHash, sk_leansOn, sk_leantBy, .ref ch, sk_lines, .int (nI P)])), (b_y, .inl (cB, 290000, .inl f)), (ch, .inr (1, [.ref cat, ch_patch, .ref cfA, ch_firstLine, ch_adds, ch_files])), (cat, .inl (cI, 38000, .inl ca))] := hD
          subst hw
          have hPc := hP.sub (ws' := [(sk, .inr (9, [.ref b_y, sk_from, sk_firstDependency, .ref fcA, sk_dependencies, sk_hashes, sk_byHash, sk_leansOn, sk_leantBy, .ref ch, sk_lines, .int (nI P)])), (b_y, .inl (cB, 290000, .inl f))]) [6, 7] rfl
          have hDc := hD.sub (ws' := [(sk, .inr (9, [.ref b_y, sk_from, sk_firstDependency, .ref fcA, sk_dependencies, sk_hashes, sk_byHash, sk_leansOn, sk_leantBy, .ref ch, sk_lines, .int (nI P)])), (b_y, .inl (cB, 290000, .inl f))]) [6, 7] (by decide) rfl
          have hFc := va_free (wc := [(sk, .inr (9, [.ref b_y, sk_from, sk_firstDependency, .ref fcA, sk_dependencies, sk_hashes, sk_byHash, sk_leansOn, sk_leantBy, .ref ch, sk_lines, .int (nI P)])), (b_y, .inl (cB, 290000, .inl f))]) hD hS hA [6, 7] rfl
          refine va_calli (va_runV (As := [.int (nI (lnAt f (CA (c0 + j))))]) (rest := [.int (nI (lcs f CA CF c0 j LO (CF (c0 + j)))), .int (nI (CF (c0 + j))), .ref lfA]) ⟨hx, hb, hml, hown, hts⟩ (m_St_two l dC dI cI cB cL cZ cR sk b_y (sk_from) (sk_firstDependency) (.ref fcA) (sk_dependencies) (sk_hashes) (sk_byHash) (sk_leansOn) (sk_leantBy) (.ref ch) (sk_lines) (.int (nI P)) f (lnAt f (CA (c0 + j))) H.size (by omega)) (cwV 1 hts (xg_V gw_815 gw_771 gw_772 gw_3 gw_773) rfl rfl rfl (by decide +kernel) ⟨Nat.le_of_ble_eq_true rfl, Nat.le_of_ble_eq_true rfl⟩) ⟨xw_blind, va_recv hK hPc (ci := 9) (q0 := 0) rfl rfl, fun U hU hW => ⟨rfl, by rw [hU], by rw [hU]; exact hPc, va_K.moved hW.alike hK, hDc.weaken (fun _ _ _ _ => trivial)⟩⟩ rfl rfl hl.1 rfl (lv_room (Nat.le_of_ble_eq_true rfl)) d_In_isAnyFileFull_97 ⟨Nat.le_of_ble_eq_true rfl, Nat.le_of_ble_eq_true rfl⟩) hS (fun q _ h => hFc q h) hFc (fun r9 u t H1 locs ht hvm hw hB hz1 hk1 hS => ?_)
          obtain ⟨hP1, hK1, hD1⟩ := hB
          rw [ht] at hP1
          obtain ⟨hP, hD⟩ := va_join (wr := [(h, .inr (3, [.ref sk, .ref ch, .ref ln, it_sha, it_form, it_named, .ref lfA, it_nextFile, it_nextLine])), (fcA, .inl (cI, 502, .inl fcf)), (cfA, .inl (cI, 38000, .inl cff)), (ln, .inr (4, [ln_at, ln_length, ln_change, ln_place, ln_up, ln_down, .ref ofA, ln_total])), (ofA, .inl (cI, 200, .inl off)), (lfA, .inl (cI, 200, .inl lfu)), (ch, .inr (1, [.ref cat, ch_patch, .ref cfA, ch_firstLine, ch_adds, ch_files])), (cat, .inl (cI, 38000, .inl ca))]) (w1 := [(sk, .inr (9, [.ref b_y, sk_from, sk_firstDependency, .ref fcA, sk_dependencies, sk_hashes, sk_byHash, sk_leansOn, sk_leantBy, .ref ch, sk_lines, .int (nI P)])), (b_y, .inl (cB, 290000, .inl f))]) hP hD [6, 7] [0, 1, 2, 3, 4, 5, 8, 9] rfl rfl (by decide) (by decide) hk1 hFc hP1 hD1
          generalize H1 = H at hP hS ⊢
          have hP : va_P (dC, dI) classes [(h, .inr (3, [.ref sk, .ref ch, .ref ln, it_sha, it_form, it_named, .ref lfA, it_nextFile, it_nextLine])), (fcA, .inl (cI, 502, .inl fcf)), (cfA, .inl (cI, 38000, .inl cff)), (ln, .inr (4, [ln_at, ln_length, ln_change, ln_place, ln_up, ln_down, .ref ofA, ln_total])), (ofA, .inl (cI, 200, .inl off)), (lfA, .inl (cI, 200, .inl lfu)), (ch, .inr (1, [.ref cat, ch_patch, .ref cfA, ch_firstLine, ch_adds, ch_files])), (cat, .inl (cI, 38000, .inl ca)), (sk, .inr (9, [.ref b_y, sk_from, sk_firstDependency, .ref fcA, sk_dependencies, sk_hashes, sk_byHash, sk_leansOn, sk_leantBy, .ref ch, sk_lines, .int (nI P)])), (b_y, .inl (cB, 290000, .inl f))] H := hP
          have hD : va_D A [(h, .inr (3, [.ref sk, .ref ch, .ref ln, it_sha, it_form, it_named, .ref lfA, it_nextFile, it_nextLine])), (fcA, .inl (cI, 502, .inl fcf)), (cfA, .inl (cI, 38000, .inl cff)), (ln, .inr (4, [ln_at, ln_length, ln_change, ln_place, ln_up, ln_down, .ref ofA, ln_total])), (ofA, .inl (cI, 200, .inl off)), (lfA, .inl (cI, 200, .inl lfu)), (ch, .inr (1, [.ref cat, ch_patch, .ref cfA, ch_firstLine, ch_adds, ch_files])), (cat, .inl (cI, 38000, .inl ca)), (sk, .inr (9, [.ref b_y, sk_from, sk_firstDependency, .ref fcA, sk_dependencies, sk_hashes, sk_byHash, sk_leansOn, sk_leantBy, .ref ch, sk_lines, .int (nI P)])), (b_y, .inl (cB, 290000, .inl f))] := hD
          subst hw
          have htw9 := tw_lt f (lnAt f (CA (c0 + j)))
          refine lv_iadd hx hb d_In_isAnyFileFull_100 ?_
          refine lv_topi (fun x_6 ex_6 => ?_)
          obtain rfl : x_6 = nI ((lcs f CA CF c0 j LO (CF (c0 + j))) + (tw f (lnAt f (CA (c0 + j))))) := by rw [ex_6]; first | done | (exact nI_add _ _)
          refine va_iast hx hb hK hP hD hS 5 0 rfl rfl (vp_in_nI (by omega) (by omega)) d_In_isAnyFileFull_101 (fun H locs hP hD hS => ?_)
          rw [show (nI (CF (c0 + j))).toNatClampNeg = (CF (c0 + j)) from nI_clamp (by omega)] at hP hD
          have hP : va_P (dC, dI) classes [(h, .inr (3, [.ref sk, .ref ch, .ref ln, it_sha, it_form, it_named, .ref lfA, it_nextFile, it_nextLine])), (fcA, .inl (cI, 502, .inl fcf)), (cfA, .inl (cI, 38000, .inl cff)), (ln, .inr (4, [ln_at, ln_length, ln_change, ln_place, ln_up, ln_down, .ref ofA, ln_total])), (ofA, .inl (cI, 200, .inl off)), (lfA, .inl (cI, 200, .inl (upd lfu (CF (c0 + j)) (nI ((lcs f CA CF c0 j LO (CF (c0 + j))) + (tw f (lnAt f (CA (c0 + j))))))))), (ch, .inr (1, [.ref cat, ch_patch, .ref cfA, ch_firstLine, ch_adds, ch_files])), (cat, .inl (cI, 38000, .inl ca)), (sk, .inr (9, [.ref b_y, sk_from, sk_firstDependency, .ref fcA, sk_dependencies, sk_hashes, sk_byHash, sk_leansOn, sk_leantBy, .ref ch, sk_lines, .int (nI P)])), (b_y, .inl (cB, 290000, .inl f))] H := hP
          have hD : va_D A [(h, .inr (3, [.ref sk, .ref ch, .ref ln, it_sha, it_form, it_named, .ref lfA, it_nextFile, it_nextLine])), (fcA, .inl (cI, 502, .inl fcf)), (cfA, .inl (cI, 38000, .inl cff)), (ln, .inr (4, [ln_at, ln_length, ln_change, ln_place, ln_up, ln_down, .ref ofA, ln_total])), (ofA, .inl (cI, 200, .inl off)), (lfA, .inl (cI, 200, .inl (upd lfu (CF (c0 + j)) (nI ((lcs f CA CF c0 j LO (CF (c0 + j))) + (tw f (lnAt f (CA (c0 + j))))))))), (ch, .inr (1, [.ref cat, ch_patch, .ref cfA, ch_firstLine, ch_adds, ch_files])), (cat, .inl (cI, 38000, .inl ca)), (sk, .inr (9, [.ref b_y, sk_from, sk_firstDependency, .ref fcA, sk_dependencies, sk_hashes, sk_byHash, sk_leansOn, sk_leantBy, .ref ch, sk_lines, .int (nI P)])), (b_y, .inl (cB, 290000, .inl f))] := hD
          refine lv_aload_n hx hb d_In_isAnyFileFull_102 rfl (lv_at hl 1 rfl) ?_
          refine va_get (D := (dC, dI)) (ci := 3) (v := .ref lfA) (C := R_In) (T := F_In) (N := 9) hx hb hts i_In hown hK hP 0 rfl rfl 6 (by decide) (hts _ gw_290) (fun _ h9 => h9) rfl d_In_isAnyFileFull_103 ?_
          refine lv_iload_n hx hb d_In_isAnyFileFull_106 rfl (lv_at hl 0 rfl) ?_
          refine va_iald hx hb hK hP 5 0 rfl rfl (vp_in_nI (by omega) (by omega)) d_In_isAnyFileFull_107 ?_
          rw [show (nI (CF (c0 + j))).toNatClampNeg = (CF (c0 + j)) from nI_clamp (by omega)]
          refine lv_topi (fun x_7 ex_7 => ?_)
          obtain rfl : x_7 = nI ((lcs f CA CF c0 j LO (CF (c0 + j))) + (tw f (lnAt f (CA (c0 + j))))) := by rw [ex_7]; first | done | (exact upd_eq _ _ _)
          refine lv_sipush (v := 400) hx hb d_In_isAnyFileFull_108 (by decide) ?_
          refine lv_icmp_le (tgt := 116) hx hb d_In_isAnyFileFull_111 (by decide) (fun c_111 => ?_) (fun c_111 => ?_)
          · have n_111 : ((lcs f CA CF c0 j LO (CF (c0 + j))) + (tw f (lnAt f (CA (c0 + j))))) ≤ 400 := (nI_leI (a := ((lcs f CA CF c0 j LO (CF (c0 + j))) + (tw f (lnAt f (CA (c0 + j)))))) (b := 400) (by omega) (by omega)).mp c_111
            refine lv_iinc (v := nI (c0 + j + 1)) (lv' := [(1, .int (nI (c0 + j + 1))), (2, .int (nI (CF (c0 + j)))), (0, .ref h)]) hx hb d_In_isAnyFileFull_116 hl (k := 2) rfl (by exact nI_add _ _) (by decide) rfl (fun ls hl => ?_)
            refine lv_goto (tgt := 35) hx hb d_In_isAnyFileFull_119 (by decide) ?_
            exact ih_35 (j + 1) (upd lfu (CF (c0 + j)) (nI ((lcs f CA CF c0 j LO (CF (c0 + j))) + (tw f (lnAt f (CA (c0 + j))))))) _ _ _ (by omega) (by omega) (lcs_up c_65 h1 n_111) (fun i z q => if e9 : i = j then by rw [e9, lcs_at (e9 ▸ q)]; exact n_111 else h2 i (by omega) q) (hP.sub [0, 8, 9, 1, 6, 7, 2, 3, 4, 5] rfl) (hD.sub [0, 8, 9, 1, 6, 7, 2, 3, 4, 5] (by decide) rfl) hS (lv_sub hl [2, 0] rfl)
          · have n_111 : 400 < ((lcs f CA CF c0 j LO (CF (c0 + j))) + (tw f (lnAt f (CA (c0 + j))))) := Nat.lt_of_not_le (fun z => c_111 ((nI_leI (a := ((lcs f CA CF c0 j LO (CF (c0 + j))) + (tw f (lnAt f (CA (c0 + j)))))) (b := 400) (by omega) (by omega)).mpr z))
            refine lv_iconst (v := 1) hx hb d_In_isAnyFileFull_114 (by decide) ?_
            have hP := hP.sub (ws' := [(h, .inr (3, [.ref sk, .ref ch, .ref ln, it_sha, it_form, it_named, .ref lfA, it_nextFile, it_nextLine])), (sk, .inr (9, [.ref b_y, sk_from, sk_firstDependency, .ref fcA, sk_dependencies, sk_hashes, sk_byHash, sk_leansOn, sk_leantBy, .ref ch, sk_lines, .int (nI P)])), (b_y, .inl (cB, 290000, .inl f)), (fcA, .inl (cI, 502, .inl fcf)), (ch, .inr (1, [.ref cat, ch_patch, .ref cfA, ch_firstLine, ch_adds, ch_files])), (cat, .inl (cI, 38000, .inl ca)), (cfA, .inl (cI, 38000, .inl cff)), (ln, .inr (4, [ln_at, ln_length, ln_change, ln_place, ln_up, ln_down, .ref ofA, ln_total])), (ofA, .inl (cI, 200, .inl off)), (lfA, .inl (cI, 200, .inl (upd lfu (CF (c0 + j)) (nI ((lcs f CA CF c0 j LO (CF (c0 + j))) + (tw f (lnAt f (CA (c0 + j)))))))))]) [0, 8, 9, 1, 6, 7, 2, 3, 4, 5] rfl
            have hD := hD.sub (ws' := [(h, .inr (3, [.ref sk, .ref ch, .ref ln, it_sha, it_form, it_named, .ref lfA, it_nextFile, it_nextLine])), (sk, .inr (9, [.ref b_y, sk_from, sk_firstDependency, .ref fcA, sk_dependencies, sk_hashes, sk_byHash, sk_leansOn, sk_leantBy, .ref ch, sk_lines, .int (nI P)])), (b_y, .inl (cB, 290000, .inl f)), (fcA, .inl (cI, 502, .inl fcf)), (ch, .inr (1, [.ref cat, ch_patch, .ref cfA, ch_firstLine, ch_adds, ch_files])), (cat, .inl (cI, 38000, .inl ca)), (cfA, .inl (cI, 38000, .inl cff)), (ln, .inr (4, [ln_at, ln_length, ln_change, ln_place, ln_up, ln_down, .ref ofA, ln_total])), (ofA, .inl (cI, 200, .inl off)), (lfA, .inl (cI, 200, .inl (upd lfu (CF (c0 + j)) (nI ((lcs f CA CF c0 j LO (CF (c0 + j))) + (tw f (lnAt f (CA (c0 + j)))))))))]) [0, 8, 9, 1, 6, 7, 2, 3, 4, 5] (by decide) rfl
            rw [← hQe]
            exact W.zret (v := 1) hx hb hr nz_b1 (fun t ht hW => ⟨⟨_, upd lfu (CF (c0 + j)) (nI ((lcs f CA CF c0 j LO (CF (c0 + j))) + (tw f (lnAt f (CA (c0 + j)))))), rfl, Or.inl ⟨rfl, j, by omega, c_65, by rw [lcs_at c_65]; exact n_111⟩, by rw [ht]; exact hP, va_K.moved hW.alike hK, hD⟩, hS.F ht⟩) hS.2.2 d_In_isAnyFileFull_115
  exact loop_35 _ 0 (va_cpy off lff 0 0 200) _ _ _ (Nat.lt_succ_self _) (Nat.zero_le _) (fun i z => by rw [vcp_in off lff (Nat.zero_le _) (by omega), Nat.zero_add, Nat.sub_zero]; exact gO i z) (fun i z => absurd z (Nat.not_lt_zero _)) hP hD hS (lv_sub hl [1, 0] rfl)
set_option maxHeartbeats 4000000 in
set_option maxRecDepth 100000 in
/-- whether the stock has no room -/
theorem m_In_isFull (l : Launch) (dC : Nat → ClassId) (dI : Nat → Nat → Nat) (cI cB cL cZ cR : ClassId) (h sk b_y fcA ch cat cfA ln ofA lfA fr : Nat) (it_sha it_form it_named sk_firstDependency sk_dependencies sk_hashes sk_byHash sk_leansOn sk_leantBy sk_lines ch_patch ch_firstLine ch_adds ch_files ln_at ln_length ln_change ln_place ln_up ln_down ln_total : Value) (f fcf ca cff off lff frf : Nat → Int32) (CA CF LO : Nat → Nat) (P c0 T en NF NL : Nat) (sz : Nat) (hP5 : P ≤ 500) (hF0 : fcf P = nI c0) (gT : fcf (P + 1) = nI (c0 + T)) (hT : c0 + T ≤ 38000) (gA : ∀ i, c0 ≤ i → i < c0 + T → ca i = nI (CA i) ∧ CA i + 5 < 290000) (gI : ∀ i, c0 ≤ i → i < c0 + T → f (CA i) = 2 → plEnd f (CA i + 5) < 290000 ∧ lnAt f (CA i) + 1 < 290000) (gF : ∀ i, i < T → f (CA (c0 + i)) = 2 → cff (c0 + i) = nI (CF (c0 + i)) ∧ CF (c0 + i) < NF) (gO : ∀ i, i < 200 → off i = nI (LO i) ∧ LO i ≤ 400) (hen : frf (P + 1) = nI en) (hen2 : en < 290001) (hNF : NF < 40000) (hNL : NL < 200000) : Met l y_In_isFull ws_In_isFull ({ frames := 4, cells := 0, slots := 0, locals := 200 }) (xw_Pc dC dI [(cI, .int), (cB, .byte), (cL, .long), (cZ, .boolean), (cR, .object "PatchStore$Repository")] [.ref h] [(h, .inr (3, [.ref sk, .ref ch, .ref ln, it_sha, it_form, it_named, .ref lfA, .int (nI NF), .int (nI NL)])), (sk, .inr (9, [.ref b_y, .ref fr, sk_firstDependency, .ref fcA, sk_dependencies, sk_hashes, sk_byHash, sk_leansOn, sk_leantBy, .ref ch, sk_lines, .int (nI P)])), (b_y, .inl (cB, 290000, .inl f)), (fcA, .inl (cI, 502, .inl fcf)), (ch, .inr (1, [.ref cat, ch_patch, .ref cfA, ch_firstLine, ch_adds, ch_files])), (cat, .inl (cI, 38000, .inl ca)), (cfA, .inl (cI, 38000, .inl cff)), (ln, .inr (4, [ln_at, ln_length, ln_change, ln_place, ln_up, ln_down, .ref ofA, ln_total])), (ofA, .inl (cI, 200, .inl off)), (lfA, .inl (cI, 200, .inl lff)), (fr, .inl (cI, 502, .inl frf))] sz) (va_Qi (fun (r : Int32) (u : Nat → Int32) => (r = 1 ∧ fuR f CA CF c0 T LO P en NF NL) ∨ (r = 0 ∧ ¬ fuR f CA CF c0 T LO P en NF NL)) (fun u t => xw_B dC dI [(cI, .int), (cB, .byte), (cL, .long), (cZ, .boolean), (cR, .object "PatchStore$Repository")] (va_A [(h, .inr (3, [.ref sk, .ref ch, .ref ln, it_sha, it_form, it_named, .ref lfA, .int (nI NF), .int (nI NL)])), (sk, .inr (9, [.ref b_y, .ref fr, sk_firstDependency, .ref fcA, sk_dependencies, sk_hashes, sk_byHash, sk_leansOn, sk_leantBy, .ref ch, sk_lines, .int (nI P)])), (b_y, .inl (cB, 290000, .inl f)), (fcA, .inl (cI, 502, .inl fcf)), (ch, .inr (1, [.ref cat, ch_patch, .ref cfA, ch_firstLine, ch_adds, ch_files])), (cat, .inl (cI, 38000, .inl ca)), (cfA, .inl (cI, 38000, .inl cff)), (ln, .inr (4, [ln_at, ln_length, ln_change, ln_place, ln_up, ln_down, .ref ofA, ln_total])), (ofA, .inl (cI, 200, .inl off)), (lfA, .inl (cI, 200, .inl lff)), (fr, .inl (cI, 502, .inl frf))] sz) [(h, .inr (3, [.ref sk, .ref ch, .ref ln, it_sha, it_form, it_named, .ref lfA, .int (nI NF), .int (nI NL)])), (sk, .inr (9, [.ref b_y, .ref fr, sk_firstDependency, .ref fcA, sk_dependencies, sk_hashes, sk_byHash, sk_leansOn, sk_leantBy, .ref ch, sk_lines, .int (nI P)])), (b_y, .inl (cB, 290000, .inl f)), (fcA, .inl (cI, 502, .inl fcf)), (ch, .inr (1, [.ref cat, ch_patch, .ref cfA, ch_firstLine, ch_adds, ch_files])), (cat, .inl (cI, 38000, .inl ca)), (cfA, .inl (cI, 38000, .inl cff)), (ln, .inr (4, [ln_at, ln_length, ln_change, ln_place, ln_up, ln_down, .ref ofA, ln_total])), (ofA, .inl (cI, 200, .inl off)), (lfA, .inl (cI, 200, .inl u)), (fr, .inl (cI, 502, .inl frf))] t) (va_A [(h, .inr (3, [.ref sk, .ref ch, .ref ln, it_sha, it_form, it_named, .ref lfA, .int (nI NF), .int (nI NL)])), (sk, .inr (9, [.ref b_y, .ref fr, sk_firstDependency, .ref fcA, sk_dependencies, sk_hashes, sk_byHash, sk_leansOn, sk_leantBy, .ref ch, sk_lines, .int (nI P)])), (b_y, .inl (cB, 290000, .inl f)), (fcA, .inl (cI, 502, .inl fcf)), (ch, .inr (1, [.ref cat, ch_patch, .ref cfA, ch_firstLine, ch_adds, ch_files])), (cat, .inl (cI, 38000, .inl ca)), (cfA, .inl (cI, 38000, .inl cff)), (ln, .inr (4, [ln_at, ln_length, ln_change, ln_place, ln_up, ln_down, .ref ofA, ln_total])), (ofA, .inl (cI, 200, .inl off)), (lfA, .inl (cI, 200, .inl lff)), (fr, .inl (cI, 502, .inl frf))] sz)) 0 0 (va_A [(h, .inr (3, [.ref sk, .ref ch, .ref ln, it_sha, it_form, it_named, .ref lfA, .int (nI NF), .int (nI NL)])), (sk, .inr (9, [.ref b_y, .ref fr, sk_firstDependency, .ref fcA, sk_dependencies, sk_hashes, sk_byHash, sk_leansOn, sk_leantBy, .ref ch, sk_lines, .int (nI P)])), (b_y, .inl (cB, 290000, .inl f)), (fcA, .inl (cI, 502, .inl fcf)), (ch, .inr (1, [.ref cat, ch_patch, .ref cfA, ch_firstLine, ch_adds, ch_files])), (cat, .inl (cI, 38000, .inl ca)), (cfA, .inl (cI, 38000, .inl cff)), (ln, .inr (4, [ln_at, ln_length, ln_change, ln_place, ln_up, ln_down, .ref ofA, ln_total])), (ofA, .inl (cI, 200, .inl off)), (lfA, .inl (cI, 200, .inl lff)), (fr, .inl (cI, 502, .inl frf))] sz) := by
  refine Met.ofW (cc := prog_4_method_15_code) (maxL := 1) (ret := (Option.some Jvm.ClassFile.FieldType.boolean)) (by decide) rfl ?_
  intro p e s m args below meth c s₁ B hml hv
  obtain ⟨rfl, hsz, hP, hK, hD0⟩ := hv
  have hx := B.exec
  have hb := B.bytes
  have hr := B.returns
  have hts0 := atoms_spec (ws := ws_In_isFull) B.pre
  have hts : ∀ w ∈ xg_1, w.before _ s = true := fun w h => hts0 w (List.mem_cons_of_mem _ h)
  have hown : s.vm.findClass "PatchStore$Intake" = some m.cls := findClass_of_methodNamed B.named
  have hlocks := B.notSynchronized
  subst hsz
  have hD := hD0.self (sz := s.heap.size)
  generalize hAe : va_A [(h, .inr (3, [.ref sk, .ref ch, .ref ln, it_sha, it_form, it_named, .ref lfA, .int (nI NF), .int (nI NL)])), (sk, .inr (9, [.ref b_y, .ref fr, sk_firstDependency, .ref fcA, sk_dependencies, sk_hashes, sk_byHash, sk_leansOn, sk_leantBy, .ref ch, sk_lines, .int (nI P)])), (b_y, .inl (cB, 290000, .inl f)), (fcA, .inl (cI, 502, .inl fcf)), (ch, .inr (1, [.ref cat, ch_patch, .ref cfA, ch_firstLine, ch_adds, ch_files])), (cat, .inl (cI, 38000, .inl ca)), (cfA, .inl (cI, 38000, .inl cff)), (ln, .inr (4, [ln_at, ln_length, ln_change, ln_place, ln_up, ln_down, .ref ofA, ln_total])), (ofA, .inl (cI, 200, .inl off)), (lfA, .inl (cI, 200, .inl lff)), (fr, .inl (cI, 502, .inl frf))] s.heap.size = A at hD ⊢
  have hA : ∀ q : Nat, s.heap.size ≤ q → A q := fun q h => by rw [← hAe]; exact Or.inr h
  have hS : va_S A s.heap s.heap [] := va_S.rf
  have hl := lv_entry ([.ref h]) (n := 1) (Nat.le_of_ble_eq_true rfl)
  rw [lg_entry_eq]
  generalize (lg_sl ([.ref h]) ++ List.replicate (1 - (lg_sl ([.ref h])).length) Slot.unset).toArray = ls at hl ⊢
  have hl : lv_has ls 1 [(0, .ref h)] := hl
  refine lv_aload_n hx hb d_In_isFull_0 rfl (lv_at hl 0 rfl) ?_
  refine va_get (D := (dC, dI)) (ci := 3) (v := .ref sk) (C := R_In) (T := F_In) (N := 9) hx hb hts i_In hown hK hP 0 rfl rfl 0 (by decide) (hts _ gw_284) (fun _ h9 => h9) rfl d_In_isFull_1 ?_
  refine va_get (D := (dC, dI)) (ci := 9) (v := .int (nI P)) (C := R_St) (T := F_St) (N := 12) hx hb hts i_St hown hK hP 1 rfl rfl 11 (by decide) (hts _ gw_238) (fun _ h9 => h9) rfl d_In_isFull_4 ?_
  refine lv_sipush (v := 500) hx hb d_In_isFull_7 (by decide) ?_
  refine lv_icmp_ge (tgt := 62) hx hb d_In_isFull_10 (by decide) (fun c_10 => ?_) (fun c_10 => ?_)
  · have n_10 : 500 ≤ P := (nI_leI (a := 500) (b := P) (by omega) (by omega)).mp c_10
    have hfu : fuR f CA CF c0 T LO P en NF NL := Or.inl n_10
    refine lv_iconst (v := 1) hx hb d_In_isFull_62 (by decide) ?_
    refine lv_goto (tgt := 67) hx hb d_In_isFull_63 (by decide) ?_
    exact W.zret (v := 1) hx hb hr nz_b1 (fun t ht hW => ⟨⟨_, lff, rfl, Or.inl ⟨rfl, hfu⟩, by rw [ht]; exact hP, va_K.moved hW.alike hK, hD⟩, hS.F ht⟩) hS.2.2 d_In_isFull_67
  · have n_10 : P < 500 := Nat.lt_of_not_le (fun z => c_10 ((nI_leI (a := 500) (b := P) (by omega) (by omega)).mpr z))
    refine lv_aload_n hx hb d_In_isFull_13 rfl (lv_at hl 0 rfl) ?_
    refine va_get (D := (dC, dI)) (ci := 3) (v := .ref sk) (C := R_In) (T := F_In) (N := 9) hx hb hts i_In hown hK hP 0 rfl rfl 0 (by decide) (hts _ gw_284) (fun _ h9 => h9) rfl d_In_isFull_14 ?_
    refine va_get (D := (dC, dI)) (ci := 9) (v := .ref fr) (C := R_St) (T := F_St) (N := 12) hx hb hts i_St hown hK hP 1 rfl rfl 1 (by decide) (hts _ gw_191) (fun _ h9 => h9) rfl d_In_isFull_17 ?_
    refine lv_aload_n hx hb d_In_isFull_20 rfl (lv_at hl 0 rfl) ?_
    refine va_get (D := (dC, dI)) (ci := 3) (v := .ref sk) (C := R_In) (T := F_In) (N := 9) hx hb hts i_In hown hK hP 0 rfl rfl 0 (by decide) (hts _ gw_284) (fun _ h9 => h9) rfl d_In_isFull_21 ?_
    refine va_get (D := (dC, dI)) (ci := 9) (v := .int (nI P)) (C := R_St) (T := F_St) (N := 12) hx hb hts i_St hown hK hP 1 rfl rfl 11 (by decide) (hts _ gw_238) (fun _ h9 => h9) rfl d_In_isFull_24 ?_
    refine lv_iconst (v := 1) hx hb d_In_isFull_27 (by decide) ?_
    refine lv_iadd hx hb d_In_isFull_28 ?_
    refine lv_topi (fun x_1 ex_1 => ?_)
    obtain rfl : x_1 = nI (P + 1) := by rw [ex_1]; first | done | (exact nI_add _ _)
    refine va_iald hx hb hK hP 10 0 rfl rfl (vp_in_nI (by omega) (by omega)) d_In_isFull_29 ?_
    rw [show (nI (P + 1)).toNatClampNeg = (P + 1) from nI_clamp (by omega)]
    refine lv_topi (fun x_2 ex_2 => ?_)
    obtain rfl : x_2 = nI en := by rw [ex_2]; first | done | (exact hen)
    refine lv_ldc (own := "PatchStore$Intake") hx hb hown (hts _ gw_945) d_In_isFull_30 ?_
    refine lv_icmp_gt (tgt := 62) hx hb d_In_isFull_32 (by decide) (fun c_32 => ?_) (fun c_32 => ?_)
    · have n_32 : 200000 < en := (nI_ltI (a := 200000) (b := en) (by omega) (by omega)).mp c_32
      have hfu : fuR f CA CF c0 T LO P en NF NL := Or.inr (Or.inl n_32)
      refine lv_iconst (v := 1) hx hb d_In_isFull_62 (by decide) ?_
      refine lv_goto (tgt := 67) hx hb d_In_isFull_63 (by decide) ?_
      exact W.zret (v := 1) hx hb hr nz_b1 (fun t ht hW => ⟨⟨_, lff, rfl, Or.inl ⟨rfl, hfu⟩, by rw [ht]; exact hP, va_K.moved hW.alike hK, hD⟩, hS.F ht⟩) hS.2.2 d_In_isFull_67
    · have n_32 : en ≤ 200000 := Nat.le_of_not_lt (fun z => c_32 ((nI_ltI (a := 200000) (b := en) (by omega) (by omega)).mpr z))
      refine lv_aload_n hx hb d_In_isFull_35 rfl (lv_at hl 0 rfl) ?_
      refine va_get (D := (dC, dI)) (ci := 3) (v := .int (nI NF)) (C := R_In) (T := F_In) (N := 9) hx hb hts i_In hown hK hP 0 rfl rfl 7 (by decide) (hts _ gw_291) (fun _ h9 => h9) rfl d_In_isFull_36 ?_
      refine lv_sipush (v := 200) hx hb d_In_isFull_39 (by decide) ?_
      refine lv_icmp_gt (tgt := 62) hx hb d_In_isFull_42 (by decide) (fun c_42 => ?_) (fun c_42 => ?_)
      · have n_42 : 200 < NF := (nI_ltI (a := 200) (b := NF) (by omega) (by omega)).mp c_42
        have hfu : fuR f CA CF c0 T LO P en NF NL := Or.inr (Or.inr (Or.inl n_42))
        refine lv_iconst (v := 1) hx hb d_In_isFull_62 (by decide) ?_
        refine lv_goto (tgt := 67) hx hb d_In_isFull_63 (by decide) ?_
        exact W.zret (v := 1) hx hb hr nz_b1 (fun t ht hW => ⟨⟨_, lff, rfl, Or.inl ⟨rfl, hfu⟩, by rw [ht]; exact hP, va_K.moved hW.alike hK, hD⟩, hS.F ht⟩) hS.2.2 d_In_isFull_67
      · have n_42 : NF ≤ 200 := Nat.le_of_not_lt (fun z => c_42 ((nI_ltI (a := 200) (b := NF) (by omega) (by omega)).mpr z))
        refine lv_aload_n hx hb d_In_isFull_45 rfl (lv_at hl 0 rfl) ?_
        refine va_get (D := (dC, dI)) (ci := 3) (v := .int (nI NL)) (C := R_In) (T := F_In) (N := 9) hx hb hts i_In hown hK hP 0 rfl rfl 8 (by decide) (hts _ gw_292) (fun _ h9 => h9) rfl d_In_isFull_46 ?_
        refine lv_sipush (v := 4000) hx hb d_In_isFull_49 (by decide) ?_
        refine lv_icmp_gt (tgt := 62) hx hb d_In_isFull_52 (by decide) (fun c_52 => ?_) (fun c_52 => ?_)
        · have n_52 : 4000 < NL := (nI_ltI (a := 4000) (b := NL) (by omega) (by omega)).mp c_52
          have hfu : fuR f CA CF c0 T LO P en NF NL := Or.inr (Or.inr (Or.inr (Or.inl n_52)))
          refine lv_iconst (v := 1) hx hb d_In_isFull_62 (by decide) ?_
          refine lv_goto (tgt := 67) hx hb d_In_isFull_63 (by decide) ?_
          exact W.zret (v := 1) hx hb hr nz_b1 (fun t ht hW => ⟨⟨_, lff, rfl, Or.inl ⟨rfl, hfu⟩, by rw [ht]; exact hP, va_K.moved hW.alike hK, hD⟩, hS.F ht⟩) hS.2.2 d_In_isFull_67
        · have n_52 : NL ≤ 4000 := Nat.le_of_not_lt (fun z => c_52 ((nI_ltI (a := 4000) (b := NL) (by omega) (by omega)).mpr z))
          refine lv_aload_n hx hb d_In_isFull_55 rfl (lv_at hl 0 rfl) ?_
          have hPc := hP.sub (ws' := [(h, .inr (3, [.ref sk, .ref ch, .ref ln, it_sha, it_form, it_named, .ref lfA, .int (nI NF), .int (nI NL)])), (sk, .inr (9, [.ref b_y, .ref fr, sk_firstDependency, .ref fcA, sk_dependencies, sk_hashes, sk_byHash, sk_leansOn, sk_leantBy, .ref ch, sk_lines, .int (nI P)])), (b_y, .inl (cB, 290000, .inl f)), (fcA, .inl (cI, 502, .inl fcf)), (ch, .inr (1, [.ref cat, ch_patch, .ref cfA, ch_firstLine, ch_adds, ch_files])), (cat, .inl (cI, 38000, .inl ca)), (cfA, .inl (cI, 38000, .inl cff)), (ln, .inr (4, [ln_at, ln_length, ln_change, ln_place, ln_up, ln_down, .ref ofA, ln_total])), (ofA, .inl (cI, 200, .inl off)), (lfA, .inl (cI, 200, .inl lff))]) [0, 1, 2, 3, 4, 5, 6, 7, 8, 9] rfl
          have hDc := hD.sub (ws' := [(h, .inr (3, [.ref sk, .ref ch, .ref ln, it_sha, it_form, it_named, .ref lfA, .int (nI NF), .int (nI NL)])), (sk, .inr (9, [.ref b_y, .ref fr, sk_firstDependency, .ref fcA, sk_dependencies, sk_hashes, sk_byHash, sk_leansOn, sk_leantBy, .ref ch, sk_lines, .int (nI P)])), (b_y, .inl (cB, 290000, .inl f)), (fcA, .inl (cI, 502, .inl fcf)), (ch, .inr (1, [.ref cat, ch_patch, .ref cfA, ch_firstLine, ch_adds, ch_files])), (cat, .inl (cI, 38000, .inl ca)), (cfA, .inl (cI, 38000, .inl cff)), (ln, .inr (4, [ln_at, ln_length, ln_change, ln_place, ln_up, ln_down, .ref ofA, ln_total])), (ofA, .inl (cI, 200, .inl off)), (lfA, .inl (cI, 200, .inl lff))]) [0, 1, 2, 3, 4, 5, 6, 7, 8, 9] (by decide) rfl
          have hFc := va_free (wc := [(h, .inr (3, [.ref sk, .ref ch, .ref ln, it_sha, it_form, it_named, .ref lfA, .int (nI NF), .int (nI NL)])), (sk, .inr (9, [.ref b_y, .ref fr, sk_firstDependency, .ref fcA, sk_dependencies, sk_hashes, sk_byHash, sk_leansOn, sk_leantBy, .ref ch, sk_lines, .int (nI P)])), (b_y, .inl (cB, 290000, .inl f)), (fcA, .inl (cI, 502, .inl fcf)), (ch, .inr (1, [.ref cat, ch_patch, .ref cfA, ch_firstLine, ch_adds, ch_files])), (cat, .inl (cI, 38000, .inl ca)), (cfA, .inl (cI, 38000, .inl cff)), (ln, .inr (4, [ln_at, ln_length, ln_change, ln_place, ln_up, ln_down, .ref ofA, ln_total])), (ofA, .inl (cI, 200, .inl off)), (lfA, .inl (cI, 200, .inl lff))]) hD hS hA [0, 1, 2, 3, 4, 5, 6, 7, 8, 9] rfl
          refine va_calli (va_runV (As := []) (rest := []) ⟨hx, hb, hml, hown, hts⟩ (m_In_isAnyFileFull l dC dI cI cB cL cZ cR h sk b_y fcA ch cat cfA ln ofA lfA (it_sha) (it_form) (it_named) (.int (nI NF)) (.int (nI NL)) (.ref fr) (sk_firstDependency) (sk_dependencies) (sk_hashes) (sk_byHash) (sk_leansOn) (sk_leantBy) (sk_lines) (ch_patch) (ch_firstLine) (ch_adds) (ch_files) (ln_at) (ln_length) (ln_change) (ln_place) (ln_up) (ln_down) (ln_total) f fcf ca cff off lff CA CF LO P c0 T s.heap.size hP5 hF0 gT hT gA gI (fun i z q => ⟨(gF i z q).1, Nat.lt_of_lt_of_le (gF i z q).2 n_42⟩) gO) (cwV 0 hts (xg_V gw_946 gw_948 (xg_p 30 (q := (⟨"PatchStore$Intake", "isAnyFileFull", "()Z"⟩, 9)) (by decide +kernel)) gw_6 gw_949) rfl rfl rfl (by decide +kernel) ⟨Nat.le_of_ble_eq_true rfl, Nat.le_of_ble_eq_true rfl⟩) ⟨xw_blind, va_recv hK hPc (ci := 3) (q0 := 0) rfl rfl, fun U hU hW => ⟨rfl, by rw [hU], by rw [hU]; exact hPc, va_K.moved hW.alike hK, hDc.weaken (fun _ _ _ _ => trivial)⟩⟩ rfl rfl hl.1 rfl (lv_room (Nat.le_of_ble_eq_true rfl)) d_In_isFull_56 ⟨Nat.le_of_ble_eq_true rfl, Nat.le_of_ble_eq_true rfl⟩) hS (fun q _ h => hFc q h) hFc (fun r9 ul t H1 locs ht hvm hw hB hz1 hk1 hS => ?_)
          obtain ⟨hP1, hK1, hD1⟩ := hB
          rw [ht] at hP1
          obtain ⟨hP, hD⟩ := va_join (wr := [(fr, .inl (cI, 502, .inl frf))]) (w1 := [(h, .inr (3, [.ref sk, .ref ch, .ref ln, it_sha, it_form, it_named, .ref lfA, .int (nI NF), .int (nI NL)])), (sk, .inr (9, [.ref b_y, .ref fr, sk_firstDependency, .ref fcA, sk_dependencies, sk_hashes, sk_byHash, sk_leansOn, sk_leantBy, .ref ch, sk_lines, .int (nI P)])), (b_y, .inl (cB, 290000, .inl f)), (fcA, .inl (cI, 502, .inl fcf)), (ch, .inr (1, [.ref cat, ch_patch, .ref cfA, ch_firstLine, ch_adds, ch_files])), (cat, .inl (cI, 38000, .inl ca)), (cfA, .inl (cI, 38000, .inl cff)), (ln, .inr (4, [ln_at, ln_length, ln_change, ln_place, ln_up, ln_down, .ref ofA, ln_total])), (ofA, .inl (cI, 200, .inl off)), (lfA, .inl (cI, 200, .inl ul))]) hP hD [0, 1, 2, 3, 4, 5, 6, 7, 8, 9] [10] rfl rfl (by decide) (by decide) hk1 hFc hP1 hD1
          generalize H1 = H at hP hS ⊢
          have hP : va_P (dC, dI) classes [(fr, .inl (cI, 502, .inl frf)), (h, .inr (3, [.ref sk, .ref ch, .ref ln, it_sha, it_form, it_named, .ref lfA, .int (nI NF), .int (nI NL)])), (sk, .inr (9, [.ref b_y, .ref fr, sk_firstDependency, .ref fcA, sk_dependencies, sk_hashes, sk_byHash, sk_leansOn, sk_leantBy, .ref ch, sk_lines, .int (nI P)])), (b_y, .inl (cB, 290000, .inl f)), (fcA, .inl (cI, 502, .inl fcf)), (ch, .inr (1, [.ref cat, ch_patch, .ref cfA, ch_firstLine, ch_adds, ch_files])), (cat, .inl (cI, 38000, .inl ca)), (cfA, .inl (cI, 38000, .inl cff)), (ln, .inr (4, [ln_at, ln_length, ln_change, ln_place, ln_up, ln_down, .ref ofA, ln_total])), (ofA, .inl (cI, 200, .inl off)), (lfA, .inl (cI, 200, .inl ul))] H := hP
          have hD : va_D A [(fr, .inl (cI, 502, .inl frf)), (h, .inr (3, [.ref sk, .ref ch, .ref ln, it_sha, it_form, it_named, .ref lfA, .int (nI NF), .int (nI NL)])), (sk, .inr (9, [.ref b_y, .ref fr, sk_firstDependency, .ref fcA, sk_dependencies, sk_hashes, sk_byHash, sk_leansOn, sk_leantBy, .ref ch, sk_lines, .int (nI P)])), (b_y, .inl (cB, 290000, .inl f)), (fcA, .inl (cI, 502, .inl fcf)), (ch, .inr (1, [.ref cat, ch_patch, .ref cfA, ch_firstLine, ch_adds, ch_files])), (cat, .inl (cI, 38000, .inl ca)), (cfA, .inl (cI, 38000, .inl cff)), (ln, .inr (4, [ln_at, ln_length, ln_change, ln_place, ln_up, ln_down, .ref ofA, ln_total])), (ofA, .inl (cI, 200, .inl off)), (lfA, .inl (cI, 200, .inl ul))] := hD
          rcases hw with ⟨rfl, hff⟩ | ⟨rfl, hff⟩
          · have hP : va_P (dC, dI) classes [(fr, .inl (cI, 502, .inl frf)), (h, .inr (3, [.ref sk, .ref ch, .ref ln, it_sha, it_form, it_named, .ref lfA, .int (nI NF), .int (nI NL)])), (sk, .inr (9, [.ref b_y, .ref fr, sk_firstDependency, .ref fcA, sk_dependencies, sk_hashes, sk_byHash, sk_leansOn, sk_leantBy, .ref ch, sk_lines, .int (nI P)])), (b_y, .inl (cB, 290000, .inl f)), (fcA, .inl (cI, 502, .inl fcf)), (ch, .inr (1, [.ref cat, ch_patch, .ref cfA, ch_firstLine, ch_adds, ch_files])), (cat, .inl (cI, 38000, .inl ca)), (cfA, .inl (cI, 38000, .inl cff)), (ln, .inr (4, [ln_at, ln_length, ln_change, ln_place, ln_up, ln_down, .ref ofA, ln_total])), (ofA, .inl (cI, 200, .inl off)), (lfA, .inl (cI, 200, .inl ul))] H := hP
            have hD : va_D A [(fr, .inl (cI, 502, .inl frf)), (h, .inr (3, [.ref sk, .ref ch, .ref ln, it_sha, it_form, it_named, .ref lfA, .int (nI NF), .int (nI NL)])), (sk, .inr (9, [.ref b_y, .ref fr, sk_firstDependency, .ref fcA, sk_dependencies, sk_hashes, sk_byHash, sk_leansOn, sk_leantBy, .ref ch, sk_lines, .int (nI P)])), (b_y, .inl (cB, 290000, .inl f)), (fcA, .inl (cI, 502, .inl fcf)), (ch, .inr (1, [.ref cat, ch_patch, .ref cfA, ch_firstLine, ch_adds, ch_files])), (cat, .inl (cI, 38000, .inl ca)), (cfA, .inl (cI, 38000, .inl cff)), (ln, .inr (4, [ln_at, ln_length, ln_change, ln_place, ln_up, ln_down, .ref ofA, ln_total])), (ofA, .inl (cI, 200, .inl off)), (lfA, .inl (cI, 200, .inl ul))] := hD
            have hfu : fuR f CA CF c0 T LO P en NF NL := Or.inr (Or.inr (Or.inr (Or.inr hff)))
            refine lv_if_eq (tgt := 66) hx hb d_In_isFull_59 (by decide) (fun c_59 => absurd c_59 (by decide)) (fun _ => ?_)
            refine lv_iconst (v := 1) hx hb d_In_isFull_62 (by decide) ?_
            refine lv_goto (tgt := 67) hx hb d_In_isFull_63 (by decide) ?_
            have hP := hP.sub (ws' := [(h, .inr (3, [.ref sk, .ref ch, .ref ln, it_sha, it_form, it_named, .ref lfA, .int (nI NF), .int (nI NL)])), (sk, .inr (9, [.ref b_y, .ref fr, sk_firstDependency, .ref fcA, sk_dependencies, sk_hashes, sk_byHash, sk_leansOn, sk_leantBy, .ref ch, sk_lines, .int (nI P)])), (b_y, .inl (cB, 290000, .inl f)), (fcA, .inl (cI, 502, .inl fcf)), (ch, .inr (1, [.ref cat, ch_patch, .ref cfA, ch_firstLine, ch_adds, ch_files])), (cat, .inl (cI, 38000, .inl ca)), (cfA, .inl (cI, 38000, .inl cff)), (ln, .inr (4, [ln_at, ln_length, ln_change, ln_place, ln_up, ln_down, .ref ofA, ln_total])), (ofA, .inl (cI, 200, .inl off)), (lfA, .inl (cI, 200, .inl ul)), (fr, .inl (cI, 502, .inl frf))]) [1, 2, 3, 4, 5, 6, 7, 8, 9, 10, 0] rfl
            have hD := hD.sub (ws' := [(h, .inr (3, [.ref sk, .ref ch, .ref ln, it_sha, it_form, it_named, .ref lfA, .int (nI NF), .int (nI NL)])), (sk, .inr (9, [.ref b_y, .ref fr, sk_firstDependency, .ref fcA, sk_dependencies, sk_hashes, sk_byHash, sk_leansOn, sk_leantBy, .ref ch, sk_lines, .int (nI P)])), (b_y, .inl (cB, 290000, .inl f)), (fcA, .inl (cI, 502, .inl fcf)), (ch, .inr (1, [.ref cat, ch_patch, .ref cfA, ch_firstLine, ch_adds, ch_files])), (cat, .inl (cI, 38000, .inl ca)), (cfA, .inl (cI, 38000, .inl cff)), (ln, .inr (4, [ln_at, ln_length, ln_change, ln_place, ln_up, ln_down, .ref ofA, ln_total])), (ofA, .inl (cI, 200, .inl off)), (lfA, .inl (cI, 200, .inl ul)), (fr, .inl (cI, 502, .inl frf))]) [1, 2, 3, 4, 5, 6, 7, 8, 9, 10, 0] (by decide) rfl
            exact W.zret (v := 1) hx hb hr nz_b1 (fun t ht hW => ⟨⟨_, ul, rfl, Or.inl ⟨rfl, hfu⟩, by rw [ht]; exact hP, va_K.moved hW.alike hK, hD⟩, hS.F ht⟩) hS.2.2 d_In_isFull_67
          · have hP : va_P (dC, dI) classes [(fr, .inl (cI, 502, .inl frf)), (h, .inr (3, [.ref sk, .ref ch, .ref ln, it_sha, it_form, it_named, .ref lfA, .int (nI NF), .int (nI NL)])), (sk, .inr (9, [.ref b_y, .ref fr, sk_firstDependency, .ref fcA, sk_dependencies, sk_hashes, sk_byHash, sk_leansOn, sk_leantBy, .ref ch, sk_lines, .int (nI P)])), (b_y, .inl (cB, 290000, .inl f)), (fcA, .inl (cI, 502, .inl fcf)), (ch, .inr (1, [.ref cat, ch_patch, .ref cfA, ch_firstLine, ch_adds, ch_files])), (cat, .inl (cI, 38000, .inl ca)), (cfA, .inl (cI, 38000, .inl cff)), (ln, .inr (4, [ln_at, ln_length, ln_change, ln_place, ln_up, ln_down, .ref ofA, ln_total])), (ofA, .inl (cI, 200, .inl off)), (lfA, .inl (cI, 200, .inl ul))] H := hP
            have hD : va_D A [(fr, .inl (cI, 502, .inl frf)), (h, .inr (3, [.ref sk, .ref ch, .ref ln, it_sha, it_form, it_named, .ref lfA, .int (nI NF), .int (nI NL)])), (sk, .inr (9, [.ref b_y, .ref fr, sk_firstDependency, .ref fcA, sk_dependencies, sk_hashes, sk_byHash, sk_leansOn, sk_leantBy, .ref ch, sk_lines, .int (nI P)])), (b_y, .inl (cB, 290000, .inl f)), (fcA, .inl (cI, 502, .inl fcf)), (ch, .inr (1, [.ref cat, ch_patch, .ref cfA, ch_firstLine, ch_adds, ch_files])), (cat, .inl (cI, 38000, .inl ca)), (cfA, .inl (cI, 38000, .inl cff)), (ln, .inr (4, [ln_at, ln_length, ln_change, ln_place, ln_up, ln_down, .ref ofA, ln_total])), (ofA, .inl (cI, 200, .inl off)), (lfA, .inl (cI, 200, .inl ul))] := hD
            have hnf : ¬ fuR f CA CF c0 T LO P en NF NL := fun z => by rcases z with z | z | z | z | z; exact absurd z (by omega); exact absurd z (by omega); exact absurd z (by omega); exact absurd z (by omega); exact hff z
            refine lv_if_eq (tgt := 66) hx hb d_In_isFull_59 (by decide) (fun _ => ?_) (fun c_59 => absurd (by decide) c_59)
            refine lv_iconst (v := 0) hx hb d_In_isFull_66 (by decide) ?_
            have hP := hP.sub (ws' := [(h, .inr (3, [.ref sk, .ref ch, .ref ln, it_sha, it_form, it_named, .ref lfA, .int (nI NF), .int (nI NL)])), (sk, .inr (9, [.ref b_y, .ref fr, sk_firstDependency, .ref fcA, sk_dependencies, sk_hashes, sk_byHash, sk_leansOn, sk_leantBy, .ref ch, sk_lines, .int (nI P)])), (b_y, .inl (cB, 290000, .inl f)), (fcA, .inl (cI, 502, .inl fcf)), (ch, .inr (1, [.ref cat, ch_patch, .ref cfA, ch_firstLine, ch_adds, ch_files])), (cat, .inl (cI, 38000, .inl ca)), (cfA, .inl (cI, 38000, .inl cff)), (ln, .inr (4, [ln_at, ln_length, ln_change, ln_place, ln_up, ln_down, .ref ofA, ln_total])), (ofA, .inl (cI, 200, .inl off)), (lfA, .inl (cI, 200, .inl ul)), (fr, .inl (cI, 502, .inl frf))]) [1, 2, 3, 4, 5, 6, 7, 8, 9, 10, 0] rfl
            have hD := hD.sub (ws' := [(h, .inr (3, [.ref sk, .ref ch, .ref ln, it_sha, it_form, it_named, .ref lfA, .int (nI NF), .int (nI NL)])), (sk, .inr (9, [.ref b_y, .ref fr, sk_firstDependency, .ref fcA, sk_dependencies, sk_hashes, sk_byHash, sk_leansOn, sk_leantBy, .ref ch, sk_lines, .int (nI P)])), (b_y, .inl (cB, 290000, .inl f)), (fcA, .inl (cI, 502, .inl fcf)), (ch, .inr (1, [.ref cat, ch_patch, .ref cfA, ch_firstLine, ch_adds, ch_files])), (cat, .inl (cI, 38000, .inl ca)), (cfA, .inl (cI, 38000, .inl cff)), (ln, .inr (4, [ln_at, ln_length, ln_change, ln_place, ln_up, ln_down, .ref ofA, ln_total])), (ofA, .inl (cI, 200, .inl off)), (lfA, .inl (cI, 200, .inl ul)), (fr, .inl (cI, 502, .inl frf))]) [1, 2, 3, 4, 5, 6, 7, 8, 9, 10, 0] (by decide) rfl
            exact W.zret (v := 0) hx hb hr nz_b0 (fun t ht hW => ⟨⟨_, ul, rfl, Or.inr ⟨rfl, hnf⟩, by rw [ht]; exact hP, va_K.moved hW.alike hK, hD⟩, hS.F ht⟩) hS.2.2 d_In_isFull_67
