/-! 99g.head.lean.txt -/
theorem gw_192 : (Jvm.Cond.fieldLink "PatchStore$Maker" (80 : Nat) "PatchStore$Stock" "from" "[I") ∈ xg_1 := xg_s1 192 rfl rfl
theorem gw_206 : (Jvm.Cond.fieldLink "PatchStore$Maker" (98 : Nat) "PatchStore$Stock" "hashes" "[B") ∈ xg_1 := xg_s1 206 rfl rfl
theorem gw_212 : (Jvm.Cond.fieldLink "PatchStore$Maker" (95 : Nat) "PatchStore$Stock" "byHash" "[I") ∈ xg_1 := xg_s1 212 rfl rfl
theorem gw_240 : (Jvm.Cond.fieldLink "PatchStore$Maker" (83 : Nat) "PatchStore$Stock" "patches" "I") ∈ xg_1 := xg_s2 0 rfl rfl
theorem gw_734 : (Jvm.Cond.methodLink "PatchStore$Maker" (89 : Nat) ({ cls := "java/util/Arrays", name := "fill", desc := "([II)V" } : Jvm.MethodName)) ∈ xg_1 := xg_s4 14 rfl rfl
def y_Mk_begin : MethodName := ⟨"PatchStore$Maker", "begin", "()V"⟩
abbrev c_Mk_begin : Cond := (Jvm.Cond.code ({ cls := "PatchStore$Maker", name := "begin", desc := "()V" } : Jvm.MethodName) prog_6_method_5_code (1 : Nat) (Option.none : Option Jvm.ClassFile.FieldType))
abbrev ws_Mk_begin : List Cond := c_Mk_begin :: xg_1
theorem d_Mk_begin_0 : decode prog_6_method_5_code 0 = .ok (.aload_n 0, 1) := by decide +kernel
theorem d_Mk_begin_1 : decode prog_6_method_5_code 1 = .ok (.aload_n 0, 1) := by decide +kernel
theorem d_Mk_begin_2 : decode prog_6_method_5_code 2 = .ok (.getfield 18, 3) := by decide +kernel
theorem d_Mk_begin_5 : decode prog_6_method_5_code 5 = .ok (.getfield 80, 3) := by decide +kernel
theorem d_Mk_begin_8 : decode prog_6_method_5_code 8 = .ok (.aload_n 0, 1) := by decide +kernel
theorem d_Mk_begin_9 : decode prog_6_method_5_code 9 = .ok (.getfield 18, 3) := by decide +kernel
theorem d_Mk_begin_12 : decode prog_6_method_5_code 12 = .ok (.getfield 83, 3) := by decide +kernel
theorem d_Mk_begin_15 : decode prog_6_method_5_code 15 = .ok (.iaload, 1) := by decide +kernel
theorem d_Mk_begin_16 : decode prog_6_method_5_code 16 = .ok (.putfield 86, 3) := by decide +kernel
theorem d_Mk_begin_19 : decode prog_6_method_5_code 19 = .ok (.aload_n 0, 1) := by decide +kernel
theorem d_Mk_begin_20 : decode prog_6_method_5_code 20 = .ok (.iconst 0, 1) := by decide +kernel
theorem d_Mk_begin_21 : decode prog_6_method_5_code 21 = .ok (.putfield 25, 3) := by decide +kernel
theorem d_Mk_begin_24 : decode prog_6_method_5_code 24 = .ok (.aload_n 0, 1) := by decide +kernel
theorem d_Mk_begin_25 : decode prog_6_method_5_code 25 = .ok (.getfield 9, 3) := by decide +kernel
theorem d_Mk_begin_28 : decode prog_6_method_5_code 28 = .ok (.iconst 0, 1) := by decide +kernel
theorem d_Mk_begin_29 : decode prog_6_method_5_code 29 = .ok (.invokestatic 89, 3) := by decide +kernel
theorem d_Mk_begin_32 : decode prog_6_method_5_code 32 = .ok (.return_, 1) := by decide +kernel
def y_Mk_finish : MethodName := ⟨"PatchStore$Maker", "finish", "()V"⟩
abbrev c_Mk_finish : Cond := (Jvm.Cond.code ({ cls := "PatchStore$Maker", name := "finish", desc := "()V" } : Jvm.MethodName) prog_6_method_8_code (1 : Nat) (Option.none : Option Jvm.ClassFile.FieldType))
abbrev ws_Mk_finish : List Cond := c_Mk_finish :: xg_1
theorem d_Mk_finish_0 : decode prog_6_method_8_code 0 = .ok (.aload_n 0, 1) := by decide +kernel
theorem d_Mk_finish_1 : decode prog_6_method_8_code 1 = .ok (.getfield 18, 3) := by decide +kernel
theorem d_Mk_finish_4 : decode prog_6_method_8_code 4 = .ok (.getfield 80, 3) := by decide +kernel
theorem d_Mk_finish_7 : decode prog_6_method_8_code 7 = .ok (.aload_n 0, 1) := by decide +kernel
theorem d_Mk_finish_8 : decode prog_6_method_8_code 8 = .ok (.getfield 18, 3) := by decide +kernel
theorem d_Mk_finish_11 : decode prog_6_method_8_code 11 = .ok (.getfield 83, 3) := by decide +kernel
theorem d_Mk_finish_14 : decode prog_6_method_8_code 14 = .ok (.iconst 1, 1) := by decide +kernel
theorem d_Mk_finish_15 : decode prog_6_method_8_code 15 = .ok (.iadd, 1) := by decide +kernel
theorem d_Mk_finish_16 : decode prog_6_method_8_code 16 = .ok (.aload_n 0, 1) := by decide +kernel
theorem d_Mk_finish_17 : decode prog_6_method_8_code 17 = .ok (.getfield 86, 3) := by decide +kernel
theorem d_Mk_finish_20 : decode prog_6_method_8_code 20 = .ok (.iastore, 1) := by decide +kernel
theorem d_Mk_finish_21 : decode prog_6_method_8_code 21 = .ok (.return_, 1) := by decide +kernel
def y_Mk_isWithoutChanges : MethodName := ⟨"PatchStore$Maker", "isWithoutChanges", "()Z"⟩
abbrev c_Mk_isWithoutChanges : Cond := (Jvm.Cond.code ({ cls := "PatchStore$Maker", name := "isWithoutChanges", desc := "()Z" } : Jvm.MethodName) prog_6_method_6_code (1 : Nat) (Option.some Jvm.ClassFile.FieldType.boolean))
abbrev ws_Mk_isWithoutChanges : List Cond := c_Mk_isWithoutChanges :: xg_1
theorem d_Mk_isWithoutChanges_0 : decode prog_6_method_6_code 0 = .ok (.aload_n 0, 1) := by decide +kernel
theorem d_Mk_isWithoutChanges_1 : decode prog_6_method_6_code 1 = .ok (.getfield 25, 3) := by decide +kernel
theorem d_Mk_isWithoutChanges_4 : decode prog_6_method_6_code 4 = .ok (.ifCond .ne 7, 3) := by decide +kernel
theorem d_Mk_isWithoutChanges_7 : decode prog_6_method_6_code 7 = .ok (.iconst 1, 1) := by decide +kernel
theorem d_Mk_isWithoutChanges_8 : decode prog_6_method_6_code 8 = .ok (.goto 4, 3) := by decide +kernel
theorem d_Mk_isWithoutChanges_11 : decode prog_6_method_6_code 11 = .ok (.iconst 0, 1) := by decide +kernel
theorem d_Mk_isWithoutChanges_12 : decode prog_6_method_6_code 12 = .ok (.ireturn, 1) := by decide +kernel
def y_Mk_putHead : MethodName := ⟨"PatchStore$Maker", "putHead", "()V"⟩
abbrev c_Mk_putHead : Cond := (Jvm.Cond.code ({ cls := "PatchStore$Maker", name := "putHead", desc := "()V" } : Jvm.MethodName) prog_6_method_7_code (5 : Nat) (Option.none : Option Jvm.ClassFile.FieldType))
abbrev ws_Mk_putHead : List Cond := c_Mk_putHead :: xg_1
theorem d_Mk_putHead_0 : decode prog_6_method_7_code 0 = .ok (.iconst 0, 1) := by decide +kernel
theorem d_Mk_putHead_1 : decode prog_6_method_7_code 1 = .ok (.istore_n 1, 1) := by decide +kernel
theorem d_Mk_putHead_2 : decode prog_6_method_7_code 2 = .ok (.iconst 0, 1) := by decide +kernel
theorem d_Mk_putHead_3 : decode prog_6_method_7_code 3 = .ok (.istore_n 2, 1) := by decide +kernel
theorem d_Mk_putHead_4 : decode prog_6_method_7_code 4 = .ok (.iload_n 2, 1) := by decide +kernel
theorem d_Mk_putHead_5 : decode prog_6_method_7_code 5 = .ok (.aload_n 0, 1) := by decide +kernel
theorem d_Mk_putHead_6 : decode prog_6_method_7_code 6 = .ok (.getfield 18, 3) := by decide +kernel
theorem d_Mk_putHead_9 : decode prog_6_method_7_code 9 = .ok (.getfield 83, 3) := by decide +kernel
theorem d_Mk_putHead_12 : decode prog_6_method_7_code 12 = .ok (.if_icmp .ge 18, 3) := by decide +kernel
theorem d_Mk_putHead_15 : decode prog_6_method_7_code 15 = .ok (.iload_n 1, 1) := by decide +kernel
theorem d_Mk_putHead_16 : decode prog_6_method_7_code 16 = .ok (.aload_n 0, 1) := by decide +kernel
theorem d_Mk_putHead_17 : decode prog_6_method_7_code 17 = .ok (.getfield 9, 3) := by decide +kernel
theorem d_Mk_putHead_20 : decode prog_6_method_7_code 20 = .ok (.iload_n 2, 1) := by decide +kernel
theorem d_Mk_putHead_21 : decode prog_6_method_7_code 21 = .ok (.iaload, 1) := by decide +kernel
theorem d_Mk_putHead_22 : decode prog_6_method_7_code 22 = .ok (.iadd, 1) := by decide +kernel
theorem d_Mk_putHead_23 : decode prog_6_method_7_code 23 = .ok (.istore_n 1, 1) := by decide +kernel
theorem d_Mk_putHead_24 : decode prog_6_method_7_code 24 = .ok (.iinc 2 1, 3) := by decide +kernel
theorem d_Mk_putHead_27 : decode prog_6_method_7_code 27 = .ok (.goto (-23), 3) := by decide +kernel
theorem d_Mk_putHead_30 : decode prog_6_method_7_code 30 = .ok (.aload_n 0, 1) := by decide +kernel
theorem d_Mk_putHead_31 : decode prog_6_method_7_code 31 = .ok (.aload_n 0, 1) := by decide +kernel
theorem d_Mk_putHead_32 : decode prog_6_method_7_code 32 = .ok (.getfield 18, 3) := by decide +kernel
theorem d_Mk_putHead_35 : decode prog_6_method_7_code 35 = .ok (.getfield 80, 3) := by decide +kernel
theorem d_Mk_putHead_38 : decode prog_6_method_7_code 38 = .ok (.aload_n 0, 1) := by decide +kernel
theorem d_Mk_putHead_39 : decode prog_6_method_7_code 39 = .ok (.getfield 18, 3) := by decide +kernel
theorem d_Mk_putHead_42 : decode prog_6_method_7_code 42 = .ok (.getfield 83, 3) := by decide +kernel
theorem d_Mk_putHead_45 : decode prog_6_method_7_code 45 = .ok (.iaload, 1) := by decide +kernel
theorem d_Mk_putHead_46 : decode prog_6_method_7_code 46 = .ok (.putfield 86, 3) := by decide +kernel
theorem d_Mk_putHead_49 : decode prog_6_method_7_code 49 = .ok (.aload_n 0, 1) := by decide +kernel
theorem d_Mk_putHead_50 : decode prog_6_method_7_code 50 = .ok (.iload_n 1, 1) := by decide +kernel
theorem d_Mk_putHead_51 : decode prog_6_method_7_code 51 = .ok (.invokevirtual 36, 3) := by decide +kernel
theorem d_Mk_putHead_54 : decode prog_6_method_7_code 54 = .ok (.iconst 0, 1) := by decide +kernel
theorem d_Mk_putHead_55 : decode prog_6_method_7_code 55 = .ok (.istore_n 2, 1) := by decide +kernel
theorem d_Mk_putHead_56 : decode prog_6_method_7_code 56 = .ok (.iconst 0, 1) := by decide +kernel
theorem d_Mk_putHead_57 : decode prog_6_method_7_code 57 = .ok (.istore_n 3, 1) := by decide +kernel
theorem d_Mk_putHead_58 : decode prog_6_method_7_code 58 = .ok (.iload_n 3, 1) := by decide +kernel
theorem d_Mk_putHead_59 : decode prog_6_method_7_code 59 = .ok (.aload_n 0, 1) := by decide +kernel
theorem d_Mk_putHead_60 : decode prog_6_method_7_code 60 = .ok (.getfield 18, 3) := by decide +kernel
theorem d_Mk_putHead_63 : decode prog_6_method_7_code 63 = .ok (.getfield 83, 3) := by decide +kernel
theorem d_Mk_putHead_66 : decode prog_6_method_7_code 66 = .ok (.if_icmp .ge 59, 3) := by decide +kernel
theorem d_Mk_putHead_69 : decode prog_6_method_7_code 69 = .ok (.aload_n 0, 1) := by decide +kernel
theorem d_Mk_putHead_70 : decode prog_6_method_7_code 70 = .ok (.getfield 18, 3) := by decide +kernel
theorem d_Mk_putHead_73 : decode prog_6_method_7_code 73 = .ok (.getfield 95, 3) := by decide +kernel
theorem d_Mk_putHead_76 : decode prog_6_method_7_code 76 = .ok (.iload_n 3, 1) := by decide +kernel
theorem d_Mk_putHead_77 : decode prog_6_method_7_code 77 = .ok (.iaload, 1) := by decide +kernel
theorem d_Mk_putHead_78 : decode prog_6_method_7_code 78 = .ok (.istore 4, 2) := by decide +kernel
theorem d_Mk_putHead_80 : decode prog_6_method_7_code 80 = .ok (.aload_n 0, 1) := by decide +kernel
theorem d_Mk_putHead_81 : decode prog_6_method_7_code 81 = .ok (.getfield 9, 3) := by decide +kernel
theorem d_Mk_putHead_84 : decode prog_6_method_7_code 84 = .ok (.iload 4, 2) := by decide +kernel
theorem d_Mk_putHead_86 : decode prog_6_method_7_code 86 = .ok (.iaload, 1) := by decide +kernel
theorem d_Mk_putHead_87 : decode prog_6_method_7_code 87 = .ok (.ifCond .eq 32, 3) := by decide +kernel
theorem d_Mk_putHead_90 : decode prog_6_method_7_code 90 = .ok (.aload_n 0, 1) := by decide +kernel
theorem d_Mk_putHead_91 : decode prog_6_method_7_code 91 = .ok (.getfield 15, 3) := by decide +kernel
theorem d_Mk_putHead_94 : decode prog_6_method_7_code 94 = .ok (.iload 4, 2) := by decide +kernel
theorem d_Mk_putHead_96 : decode prog_6_method_7_code 96 = .ok (.iload_n 2, 1) := by decide +kernel
theorem d_Mk_putHead_97 : decode prog_6_method_7_code 97 = .ok (.iastore, 1) := by decide +kernel
theorem d_Mk_putHead_98 : decode prog_6_method_7_code 98 = .ok (.iinc 2 1, 3) := by decide +kernel
theorem d_Mk_putHead_101 : decode prog_6_method_7_code 101 = .ok (.aload_n 0, 1) := by decide +kernel
theorem d_Mk_putHead_102 : decode prog_6_method_7_code 102 = .ok (.aload_n 0, 1) := by decide +kernel
theorem d_Mk_putHead_103 : decode prog_6_method_7_code 103 = .ok (.getfield 18, 3) := by decide +kernel
theorem d_Mk_putHead_106 : decode prog_6_method_7_code 106 = .ok (.getfield 98, 3) := by decide +kernel
theorem d_Mk_putHead_109 : decode prog_6_method_7_code 109 = .ok (.iload 4, 2) := by decide +kernel
theorem d_Mk_putHead_111 : decode prog_6_method_7_code 111 = .ok (.bipush 32, 2) := by decide +kernel
theorem d_Mk_putHead_113 : decode prog_6_method_7_code 113 = .ok (.imul, 1) := by decide +kernel
theorem d_Mk_putHead_114 : decode prog_6_method_7_code 114 = .ok (.bipush 32, 2) := by decide +kernel
theorem d_Mk_putHead_116 : decode prog_6_method_7_code 116 = .ok (.invokevirtual 102, 3) := by decide +kernel
theorem d_Mk_putHead_119 : decode prog_6_method_7_code 119 = .ok (.iinc 3 1, 3) := by decide +kernel
theorem d_Mk_putHead_122 : decode prog_6_method_7_code 122 = .ok (.goto (-64), 3) := by decide +kernel
theorem d_Mk_putHead_125 : decode prog_6_method_7_code 125 = .ok (.aload_n 0, 1) := by decide +kernel
theorem d_Mk_putHead_126 : decode prog_6_method_7_code 126 = .ok (.aload_n 0, 1) := by decide +kernel
theorem d_Mk_putHead_127 : decode prog_6_method_7_code 127 = .ok (.getfield 25, 3) := by decide +kernel
theorem d_Mk_putHead_130 : decode prog_6_method_7_code 130 = .ok (.invokevirtual 36, 3) := by decide +kernel
theorem d_Mk_putHead_133 : decode prog_6_method_7_code 133 = .ok (.return_, 1) := by decide +kernel
theorem hdL_yes {S : Stk} {hs nm : Nat → Int32} {i : Nat} (h : nmb S nm i = true) : hdL S hs nm (i + 1) = hdL S hs nm i ++ byL hs (S.BH i * 32) 32 := by
  show hdL S hs nm i ++ (if nmb S nm i = true then byL hs (S.BH i * 32) 32 else []) = _
  rw [if_pos h]
theorem hdL_no {S : Stk} {hs nm : Nat → Int32} {i : Nat} (h : ¬ nmb S nm i = true) : hdL S hs nm (i + 1) = hdL S hs nm i := by
  show hdL S hs nm i ++ (if nmb S nm i = true then byL hs (S.BH i * 32) 32 else []) = _
  rw [if_neg h, List.append_nil]
theorem cnt_nmd {nm : Nat → Int32} {i : Nat} (h : nm i = 0 ∨ nm i = 1) : nI (cnt (nmd nm) i) + nm i = nI (cnt (nmd nm) (i + 1)) := by
  rcases h with h | h
  · rw [h, ← cnt_no (fun z => nmd_iff.mp z h)]
    exact Int32.add_zero _
  · rw [h, ← cnt_yes (nmd_iff.mpr (by rw [h]; decide))]
    exact nI_add _ 1
theorem plR9.yes {S : Stk} {nm pl : Nat → Int32} {i : Nat} (I : sInv S) (hi : i < S.P) (h : plR9 S nm pl i) : plR9 S nm (upd pl (S.BH i) (nI (cnt (nmb S nm) i))) (i + 1) := by
  intro k hk hn
  by_cases e : k = i
  · subst e; rw [upd_eq]
  · rw [upd_ne _ (I.inj k i (by omega) hi)]
    exact h k (by omega) hn
theorem plR9.no {S : Stk} {nm pl : Nat → Int32} {i : Nat} (h : plR9 S nm pl i) (hn : ¬ nmb S nm i = true) : plR9 S nm pl (i + 1) := by
  intro k hk h2
  by_cases e : k = i
  · subst e; exact absurd h2 hn
  · exact h k (by omega) h2
/-- the bytes of refs to changes, PC the patches of these -/
def rfs (S : Stk) (pl : Nat → Int32) (PC : Nat → Nat) : List Nat → List Int32
  | [] => []
  | c :: t => rfW S pl (PC c) c ++ rfs S pl PC t
theorem rfs_app (S : Stk) (pl : Nat → Int32) (PC : Nat → Nat) (c : Nat) (A : List Nat) : rfs S pl PC (A ++ [c]) = rfs S pl PC A ++ rfW S pl (PC c) c := by
  induction A with
  | nil =>
    show rfW S pl (PC c) c ++ [] = [] ++ rfW S pl (PC c) c
    rw [List.append_nil, List.nil_append]
  | cons d t ih =>
    show rfW S pl (PC d) d ++ rfs S pl PC (t ++ [c]) = (rfW S pl (PC d) d ++ rfs S pl PC t) ++ rfW S pl (PC c) c
    rw [ih, List.append_assoc]
theorem rfs_len (S : Stk) (pl : Nat → Int32) (PC : Nat → Nat) : ∀ A : List Nat, (rfs S pl PC A).length = 4 * A.length
  | [] => rfl
  | d :: t => by
    show (rfW S pl (PC d) d ++ rfs S pl PC t).length = 4 * (t.length + 1)
    rw [List.length_append, rfs_len S pl PC t, rfW_len]; omega
/-- which patches are named, with those of the list -/
def nms (PC : Nat → Nat) (nm : Nat → Int32) (A : List Nat) : Nat → Int32 := A.foldl (fun g c => upd g (PC c) 1) nm
theorem nms_app (PC : Nat → Nat) (nm : Nat → Int32) (A : List Nat) (c : Nat) : nms PC nm (A ++ [c]) = upd (nms PC nm A) (PC c) 1 := by
  unfold nms
  rw [List.foldl_append]; rfl
set_option maxHeartbeats 4000000 in
set_option maxRecDepth 100000 in
/-- begin -/
theorem m_Mk_begin (l : Launch) (dC : Nat → ClassId) (dI : Nat → Nat → Nat) (cI cB cL cZ cR : ClassId) (h sk fr nmA : Nat) (mk_places mk_at mk_changes sk_bytes sk_firstDependency sk_firstChange sk_dependencies sk_hashes sk_byHash sk_leansOn sk_leantBy sk_changes sk_lines : Value) (S : Stk) (frf nm : Nat → Int32) (sz : Nat) (hfr : frf S.P = nI (S.FR S.P)) (hP5 : S.P ≤ 500) : Met l y_Mk_begin ws_Mk_begin ({ frames := 1, cells := 0, slots := 0, locals := 60 }) (xw_Pc dC dI [(cI, .int), (cB, .byte), (cL, .long), (cZ, .boolean), (cR, .object "PatchStore$Repository")] [.ref h] [(h, .inr (5, [.ref sk, .ref nmA, mk_places, mk_at, mk_changes])), (sk, .inr (9, [sk_bytes, .ref fr, sk_firstDependency, sk_firstChange, sk_dependencies, sk_hashes, sk_byHash, sk_leansOn, sk_leantBy, sk_changes, sk_lines, .int (nI S.P)])), (fr, .inl (cI, 502, .inl frf)), (nmA, .inl (cI, 500, .inl nm))] sz) (va_Qv (fun u : Nat → Int32 => ∀ j, j < 500 → u j = 0) (fun u t => xw_B dC dI [(cI, .int), (cB, .byte), (cL, .long), (cZ, .boolean), (cR, .object "PatchStore$Repository")] (va_A [(h, .inr (5, [.ref sk, .ref nmA, mk_places, mk_at, mk_changes])), (sk, .inr (9, [sk_bytes, .ref fr, sk_firstDependency, sk_firstChange, sk_dependencies, sk_hashes, sk_byHash, sk_leansOn, sk_leantBy, sk_changes, sk_lines, .int (nI S.P)])), (fr, .inl (cI, 502, .inl frf)), (nmA, .inl (cI, 500, .inl nm))] sz) [(h, .inr (5, [.ref sk, .ref nmA, mk_places, .int (nI (S.FR S.P)), .int (nI 0)])), (sk, .inr (9, [sk_bytes, .ref fr, sk_firstDependency, sk_firstChange, sk_dependencies, sk_hashes, sk_byHash, sk_leansOn, sk_leantBy, sk_changes, sk_lines, .int (nI S.P)])), (fr, .inl (cI, 502, .inl frf)), (nmA, .inl (cI, 500, .inl u))] t) (va_A [(h, .inr (5, [.ref sk, .ref nmA, mk_places, mk_at, mk_changes])), (sk, .inr (9, [sk_bytes, .ref fr, sk_firstDependency, sk_firstChange, sk_dependencies, sk_hashes, sk_byHash, sk_leansOn, sk_leantBy, sk_changes, sk_lines, .int (nI S.P)])), (fr, .inl (cI, 502, .inl frf)), (nmA, .inl (cI, 500, .inl nm))] sz)) 0 0 (va_A [(h, .inr (5, [.ref sk, .ref nmA, mk_places, mk_at, mk_changes])), (sk, .inr (9, [sk_bytes, .ref fr, sk_firstDependency, sk_firstChange, sk_dependencies, sk_hashes, sk_byHash, sk_leansOn, sk_leantBy, sk_changes, sk_lines, .int (nI S.P)])), (fr, .inl (cI, 502, .inl frf)), (nmA, .inl (cI, 500, .inl nm))] sz) := by
  refine Met.ofW (cc := prog_6_method_5_code) (maxL := 1) (ret := none) (by decide) rfl ?_
  intro p e s m args below meth c s₁ B hml hv
  obtain ⟨rfl, hsz, hP, hK, hD0⟩ := hv
  have hx := B.exec
  have hb := B.bytes
  have hr := B.returns
  have hts0 := atoms_spec (ws := ws_Mk_begin) B.pre
  have hts : ∀ w ∈ xg_1, w.before _ s = true := fun w h => hts0 w (List.mem_cons_of_mem _ h)
  have hown : s.vm.findClass "PatchStore$Maker" = some m.cls := findClass_of_methodNamed B.named
  have hlocks := B.notSynchronized
  subst hsz
  have hD := hD0.self (sz := s.heap.size)
  generalize hAe : va_A [(h, .inr (5, [.ref sk, .ref nmA, mk_places, mk_at, mk_changes])), (sk, .inr (9, [sk_bytes, .ref fr, sk_firstDependency, sk_firstChange, sk_dependencies, sk_hashes, sk_byHash, sk_leansOn, sk_leantBy, sk_changes, sk_lines, .int (nI S.P)])), (fr, .inl (cI, 502, .inl frf)), (nmA, .inl (cI, 500, .inl nm))] s.heap.size = A at hD ⊢
  have hA : ∀ q : Nat, s.heap.size ≤ q → A q := fun q h => by rw [← hAe]; exact Or.inr h
  have hS : va_S A s.heap s.heap [] := va_S.rf
  have hl := lv_entry ([.ref h]) (n := 1) (Nat.le_of_ble_eq_true rfl)
  rw [lg_entry_eq]
  generalize (lg_sl ([.ref h]) ++ List.replicate (1 - (lg_sl ([.ref h])).length) Slot.unset).toArray = ls at hl ⊢
  have hl : lv_has ls 1 [(0, .ref h)] := hl
  refine lv_aload_n hx hb d_Mk_begin_0 rfl (lv_at hl 0 rfl) ?_
  refine lv_aload_n hx hb d_Mk_begin_1 rfl (lv_at hl 0 rfl) ?_
  refine va_get (D := (dC, dI)) (ci := 5) (v := .ref sk) (C := R_Mk) (T := F_Mk) (N := 5) hx hb hts i_Mk hown hK hP 0 rfl rfl 0 (by decide) (hts _ gw_446) (fun _ h9 => h9) rfl d_Mk_begin_2 ?_
  refine va_get (D := (dC, dI)) (ci := 9) (v := .ref fr) (C := R_St) (T := F_St) (N := 12) hx hb hts i_St hown hK hP 1 rfl rfl 1 (by decide) (hts _ gw_192) (fun _ h9 => h9) rfl d_Mk_begin_5 ?_
  refine lv_aload_n hx hb d_Mk_begin_8 rfl (lv_at hl 0 rfl) ?_
  refine va_get (D := (dC, dI)) (ci := 5) (v := .ref sk) (C := R_Mk) (T := F_Mk) (N := 5) hx hb hts i_Mk hown hK hP 0 rfl rfl 0 (by decide) (hts _ gw_446) (fun _ h9 => h9) rfl d_Mk_begin_9 ?_
  refine va_get (D := (dC, dI)) (ci := 9) (v := .int (nI S.P)) (C := R_St) (T := F_St) (N := 12) hx hb hts i_St hown hK hP 1 rfl rfl 11 (by decide) (hts _ gw_240) (fun _ h9 => h9) rfl d_Mk_begin_12 ?_
  refine va_iald hx hb hK hP 2 0 rfl rfl (vp_in_nI (by omega) (by omega)) d_Mk_begin_15 ?_
  rw [show (nI S.P).toNatClampNeg = S.P from nI_clamp (by omega)]
  refine lv_topi (fun x_1 ex_1 => ?_)
  obtain rfl : x_1 = nI (S.FR S.P) := by rw [ex_1]; first | done | (exact hfr)
  refine va_put (D := (dC, dI)) (ci := 5) (v := .int (nI (S.FR S.P))) (ty := .int) (C := R_Mk) (T := F_Mk) (N := 5) hx hb hts i_Mk t_Mk t_Mk_ok n_Mk hown hK hP hD hS 0 rfl rfl 3 (by decide) (hts _ gw_449) (fun _ h9 => h9) rfl (by decide +kernel) rfl rfl (Nat.le_of_ble_eq_true rfl) d_Mk_begin_16 (fun H locs hP hD hS => ?_)
  have hP : va_P (dC, dI) classes [(h, .inr (5, [.ref sk, .ref nmA, mk_places, .int (nI (S.FR S.P)), mk_changes])), (sk, .inr (9, [sk_bytes, .ref fr, sk_firstDependency, sk_firstChange, sk_dependencies, sk_hashes, sk_byHash, sk_leansOn, sk_leantBy, sk_changes, sk_lines, .int (nI S.P)])), (fr, .inl (cI, 502, .inl frf)), (nmA, .inl (cI, 500, .inl nm))] H := hP
  have hD : va_D A [(h, .inr (5, [.ref sk, .ref nmA, mk_places, .int (nI (S.FR S.P)), mk_changes])), (sk, .inr (9, [sk_bytes, .ref fr, sk_firstDependency, sk_firstChange, sk_dependencies, sk_hashes, sk_byHash, sk_leansOn, sk_leantBy, sk_changes, sk_lines, .int (nI S.P)])), (fr, .inl (cI, 502, .inl frf)), (nmA, .inl (cI, 500, .inl nm))] := hD
  refine lv_aload_n hx hb d_Mk_begin_19 rfl (lv_at hl 0 rfl) ?_
  refine lv_iconst (v := 0) hx hb d_Mk_begin_20 (by decide) ?_
  refine lv_topi (fun x_2 ex_2 => ?_)
  obtain rfl : x_2 = nI 0 := by rw [ex_2]; first | done | (rfl)
  refine va_put (D := (dC, dI)) (ci := 5) (v := .int (nI 0)) (ty := .int) (C := R_Mk) (T := F_Mk) (N := 5) hx hb hts i_Mk t_Mk t_Mk_ok n_Mk hown hK hP hD hS 0 rfl rfl 4 (by decide) (hts _ gw_450) (fun _ h9 => h9) rfl (by decide +kernel) rfl rfl (Nat.le_of_ble_eq_true rfl) d_Mk_begin_21 (fun H locs hP hD hS => ?_)
  have hP : va_P (dC, dI) classes [(h, .inr (5, [.ref sk, .ref nmA, mk_places, .int (nI (S.FR S.P)), .int (nI 0)])), (sk, .inr (9, [sk_bytes, .ref fr, sk_firstDependency, sk_firstChange, sk_dependencies, sk_hashes, sk_byHash, sk_leansOn, sk_leantBy, sk_changes, sk_lines, .int (nI S.P)])), (fr, .inl (cI, 502, .inl frf)), (nmA, .inl (cI, 500, .inl nm))] H := hP
  have hD : va_D A [(h, .inr (5, [.ref sk, .ref nmA, mk_places, .int (nI (S.FR S.P)), .int (nI 0)])), (sk, .inr (9, [sk_bytes, .ref fr, sk_firstDependency, sk_firstChange, sk_dependencies, sk_hashes, sk_byHash, sk_leansOn, sk_leantBy, sk_changes, sk_lines, .int (nI S.P)])), (fr, .inl (cI, 502, .inl frf)), (nmA, .inl (cI, 500, .inl nm))] := hD
  refine lv_aload_n hx hb d_Mk_begin_24 rfl (lv_at hl 0 rfl) ?_
  refine va_get (D := (dC, dI)) (ci := 5) (v := .ref nmA) (C := R_Mk) (T := F_Mk) (N := 5) hx hb hts i_Mk hown hK hP 0 rfl rfl 1 (by decide) (hts _ gw_447) (fun _ h9 => h9) rfl d_Mk_begin_25 ?_
  refine lv_iconst (v := 0) hx hb d_Mk_begin_28 (by decide) ?_
  have hPc := hP.sub (ws' := [(nmA, .inl (cI, 500, .inl nm))]) [3] rfl
  have hDc := hD.sub (ws' := [(nmA, .inl (cI, 500, .inl nm))]) [3] (by decide) rfl
  have hFc := va_free (wc := [(nmA, .inl (cI, 500, .inl nm))]) hD hS hA [3] rfl
  refine va_callv (va_runS (As := [.ref nmA, .int 0]) (rest := []) ⟨hx, hb, hml, hown, hts⟩ (m_Ar_fill l dC dI cI cB cL cZ cR nmA 500 nm 0 H.size (by decide)) ⟨callB_of 2 hts (xg_in gw_736) rfl rfl rfl (hts _ gw_22) (hts _ gw_734) (by decide +kernel) ⟨Nat.le_of_ble_eq_true rfl, Nat.le_of_ble_eq_true rfl⟩, hts _ gw_735⟩ ⟨xw_blind, fun U hU hW => ⟨rfl, by rw [hU], by rw [hU]; exact hPc, va_K.moved hW.alike hK, hDc.weaken (fun _ _ _ _ => trivial)⟩⟩ rfl rfl hl.1 rfl (lv_room (Nat.le_of_ble_eq_true rfl)) d_Mk_begin_29 ⟨Nat.le_of_ble_eq_true rfl, Nat.le_of_ble_eq_true rfl⟩) hS (fun q _ h => hFc q h) hFc (fun z0 t H1 locs ht hvm hw hB hz1 hk1 hS => ?_)
  have hz0 : ∀ j, j < 500 → z0 j = 0 := hw
  obtain ⟨hP1, hK1, hD1⟩ := hB
  rw [ht] at hP1
  obtain ⟨hP, hD⟩ := va_join (wr := [(h, .inr (5, [.ref sk, .ref nmA, mk_places, .int (nI (S.FR S.P)), .int (nI 0)])), (sk, .inr (9, [sk_bytes, .ref fr, sk_firstDependency, sk_firstChange, sk_dependencies, sk_hashes, sk_byHash, sk_leansOn, sk_leantBy, sk_changes, sk_lines, .int (nI S.P)])), (fr, .inl (cI, 502, .inl frf))]) (w1 := [(nmA, .inl (cI, 500, .inl z0))]) hP hD [3] [0, 1, 2] rfl rfl (by decide) (by decide) hk1 hFc hP1 hD1
  generalize H1 = H at hP hS ⊢
  have hP : va_P (dC, dI) classes [(h, .inr (5, [.ref sk, .ref nmA, mk_places, .int (nI (S.FR S.P)), .int (nI 0)])), (sk, .inr (9, [sk_bytes, .ref fr, sk_firstDependency, sk_firstChange, sk_dependencies, sk_hashes, sk_byHash, sk_leansOn, sk_leantBy, sk_changes, sk_lines, .int (nI S.P)])), (fr, .inl (cI, 502, .inl frf)), (nmA, .inl (cI, 500, .inl z0))] H := hP
  have hD : va_D A [(h, .inr (5, [.ref sk, .ref nmA, mk_places, .int (nI (S.FR S.P)), .int (nI 0)])), (sk, .inr (9, [sk_bytes, .ref fr, sk_firstDependency, sk_firstChange, sk_dependencies, sk_hashes, sk_byHash, sk_leansOn, sk_leantBy, sk_changes, sk_lines, .int (nI S.P)])), (fr, .inl (cI, 502, .inl frf)), (nmA, .inl (cI, 500, .inl z0))] := hD
  exact W.vret hx hb hr (fun t ht hW => ⟨⟨z0, rfl, hz0, by rw [ht]; exact hP, va_K.moved hW.alike hK, hD⟩, hS.F ht⟩) hS.2.2 d_Mk_begin_32
set_option maxHeartbeats 4000000 in
set_option maxRecDepth 100000 in
/-- finish -/
theorem m_Mk_finish (l : Launch) (dC : Nat → ClassId) (dI : Nat → Nat → Nat) (cI cB cL cZ cR : ClassId) (h sk fr : Nat) (mk_named mk_places mk_changes sk_bytes sk_firstDependency sk_firstChange sk_dependencies sk_hashes sk_byHash sk_leansOn sk_leantBy sk_changes sk_lines : Value) (S : Stk) (frf : Nat → Int32) (en : Nat) (sz : Nat) (hP5 : S.P ≤ 500) : Met l y_Mk_finish ws_Mk_finish ({ frames := 0, cells := 0, slots := 0, locals := 0 }) (xw_Pc dC dI [(cI, .int), (cB, .byte), (cL, .long), (cZ, .boolean), (cR, .object "PatchStore$Repository")] [.ref h] [(h, .inr (5, [.ref sk, mk_named, mk_places, .int (nI en), mk_changes])), (sk, .inr (9, [sk_bytes, .ref fr, sk_firstDependency, sk_firstChange, sk_dependencies, sk_hashes, sk_byHash, sk_leansOn, sk_leantBy, sk_changes, sk_lines, .int (nI S.P)])), (fr, .inl (cI, 502, .inl frf))] sz) (va_Qv (fun _ : Unit => True) (fun _ t => xw_B dC dI [(cI, .int), (cB, .byte), (cL, .long), (cZ, .boolean), (cR, .object "PatchStore$Repository")] (va_A [(h, .inr (5, [.ref sk, mk_named, mk_places, .int (nI en), mk_changes])), (sk, .inr (9, [sk_bytes, .ref fr, sk_firstDependency, sk_firstChange, sk_dependencies, sk_hashes, sk_byHash, sk_leansOn, sk_leantBy, sk_changes, sk_lines, .int (nI S.P)])), (fr, .inl (cI, 502, .inl frf))] sz) [(h, .inr (5, [.ref sk, mk_named, mk_places, .int (nI en), mk_changes])), (sk, .inr (9, [sk_bytes, .ref fr, sk_firstDependency, sk_firstChange, sk_dependencies, sk_hashes, sk_byHash, sk_leansOn, sk_leantBy, sk_changes, sk_lines, .int (nI S.P)])), (fr, .inl (cI, 502, .inl (upd frf (S.P + 1) (nI en))))] t) (va_A [(h, .inr (5, [.ref sk, mk_named, mk_places, .int (nI en), mk_changes])), (sk, .inr (9, [sk_bytes, .ref fr, sk_firstDependency, sk_firstChange, sk_dependencies, sk_hashes, sk_byHash, sk_leansOn, sk_leantBy, sk_changes, sk_lines, .int (nI S.P)])), (fr, .inl (cI, 502, .inl frf))] sz)) 0 0 (va_A [(h, .inr (5, [.ref sk, mk_named, mk_places, .int (nI en), mk_changes])), (sk, .inr (9, [sk_bytes, .ref fr, sk_firstDependency, sk_firstChange, sk_dependencies, sk_hashes, sk_byHash, sk_leansOn, sk_leantBy, sk_changes, sk_lines, .int (nI S.P)])), (fr, .inl (cI, 502, .inl frf))] sz) := by
  refine Met.ofW (cc := prog_6_method_8_code) (maxL := 1) (ret := none) (by decide) rfl ?_
  intro p e s m args below meth c s₁ B hml hv
  obtain ⟨rfl, hsz, hP, hK, hD0⟩ := hv
  have hx := B.exec
  have hb := B.bytes
  have hr := B.returns
  have hts0 := atoms_spec (ws := ws_Mk_finish) B.pre
  have hts : ∀ w ∈ xg_1, w.before _ s = true := fun w h => hts0 w (List.mem_cons_of_mem _ h)
  have hown : s.vm.findClass "PatchStore$Maker" = some m.cls := findClass_of_methodNamed B.named
  have hlocks := B.notSynchronized
  subst hsz
  have hD := hD0.self (sz := s.heap.size)
  generalize hAe : va_A [(h, .inr (5, [.ref sk, mk_named, mk_places, .int (nI en), mk_changes])), (sk, .inr (9, [sk_bytes, .ref fr, sk_firstDependency, sk_firstChange, sk_dependencies, sk_hashes, sk_byHash, sk_leansOn, sk_leantBy, sk_changes, sk_lines, .int (nI S.P)])), (fr, .inl (cI, 502, .inl frf))] s.heap.size = A at hD ⊢
  have hA : ∀ q : Nat, s.heap.size ≤ q → A q := fun q h => by rw [← hAe]; exact Or.inr h
  have hS : va_S A s.heap s.heap [] := va_S.rf
  have hl := lv_entry ([.ref h]) (n := 1) (Nat.le_of_ble_eq_true rfl)
  rw [lg_entry_eq]
  generalize (lg_sl ([.ref h]) ++ List.replicate (1 - (lg_sl ([.ref h])).length) Slot.unset).toArray = ls at hl ⊢
  have hl : lv_has ls 1 [(0, .ref h)] := hl
  refine lv_aload_n hx hb d_Mk_finish_0 rfl (lv_at hl 0 rfl) ?_
  refine va_get (D := (dC, dI)) (ci := 5) (v := .ref sk) (C := R_Mk) (T := F_Mk) (N := 5) hx hb hts i_Mk hown hK hP 0 rfl rfl 0 (by decide) (hts _ gw_446) (fun _ h9 => h9) rfl d_Mk_finish_1 ?_
  refine va_get (D := (dC, dI)) (ci := 9) (v := .ref fr) (C := R_St) (T := F_St) (N := 12) hx hb hts i_St hown hK hP 1 rfl rfl 1 (by decide) (hts _ gw_192) (fun _ h9 => h9) rfl d_Mk_finish_4 ?_
  refine lv_aload_n hx hb d_Mk_finish_7 rfl (lv_at hl 0 rfl) ?_
  refine va_get (D := (dC, dI)) (ci := 5) (v := .ref sk) (C := R_Mk) (T := F_Mk) (N := 5) hx hb hts i_Mk hown hK hP 0 rfl rfl 0 (by decide) (hts _ gw_446) (fun _ h9 => h9) rfl d_Mk_finish_8 ?_
  refine va_get (D := (dC, dI)) (ci := 9) (v := .int (nI S.P)) (C := R_St) (T := F_St) (N := 12) hx hb hts i_St hown hK hP 1 rfl rfl 11 (by decide) (hts _ gw_240) (fun _ h9 => h9) rfl d_Mk_finish_11 ?_
  refine lv_iconst (v := 1) hx hb d_Mk_finish_14 (by decide) ?_
  refine lv_iadd hx hb d_Mk_finish_15 ?_
  refine lv_topi (fun x_1 ex_1 => ?_)
  obtain rfl : x_1 = nI (S.P + 1) := by rw [ex_1]; first | done | (exact nI_add _ _)
  refine lv_aload_n hx hb d_Mk_finish_16 rfl (lv_at hl 0 rfl) ?_
  refine va_get (D := (dC, dI)) (ci := 5) (v := .int (nI en)) (C := R_Mk) (T := F_Mk) (N := 5) hx hb hts i_Mk hown hK hP 0 rfl rfl 3 (by decide) (hts _ gw_449) (fun _ h9 => h9) rfl d_Mk_finish_17 ?_
  refine va_iast hx hb hK hP hD hS 2 0 rfl rfl (vp_in_nI (by omega) (by omega)) d_Mk_finish_20 (fun H locs hP hD hS => ?_)
  rw [show (nI (S.P + 1)).toNatClampNeg = (S.P + 1) from nI_clamp (by omega)] at hP hD
  have hP : va_P (dC, dI) classes [(h, .inr (5, [.ref sk, mk_named, mk_places, .int (nI en), mk_changes])), (sk, .inr (9, [sk_bytes, .ref fr, sk_firstDependency, sk_firstChange, sk_dependencies, sk_hashes, sk_byHash, sk_leansOn, sk_leantBy, sk_changes, sk_lines, .int (nI S.P)])), (fr, .inl (cI, 502, .inl (upd frf (S.P + 1) (nI en))))] H := hP
  have hD : va_D A [(h, .inr (5, [.ref sk, mk_named, mk_places, .int (nI en), mk_changes])), (sk, .inr (9, [sk_bytes, .ref fr, sk_firstDependency, sk_firstChange, sk_dependencies, sk_hashes, sk_byHash, sk_leansOn, sk_leantBy, sk_changes, sk_lines, .int (nI S.P)])), (fr, .inl (cI, 502, .inl (upd frf (S.P + 1) (nI en))))] := hD
  exact W.vret hx hb hr (fun t ht hW => ⟨⟨(), rfl, trivial, by rw [ht]; exact hP, va_K.moved hW.alike hK, hD⟩, hS.F ht⟩) hS.2.2 d_Mk_finish_21
set_option maxHeartbeats 4000000 in
set_option maxRecDepth 100000 in
/-- whether nothing was written -/
theorem m_Mk_isWithout (l : Launch) (dC : Nat → ClassId) (dI : Nat → Nat → Nat) (cI cB cL cZ cR : ClassId) (h : Nat) (mk_stock mk_named mk_places mk_at : Value) (cn : Nat) (sz : Nat) (hcn : cn < 100000) : Met l y_Mk_isWithoutChanges ws_Mk_isWithoutChanges ({ frames := 0, cells := 0, slots := 0, locals := 0 }) (xw_Pc dC dI [(cI, .int), (cB, .byte), (cL, .long), (cZ, .boolean), (cR, .object "PatchStore$Repository")] [.ref h] [(h, .inr (5, [mk_stock, mk_named, mk_places, mk_at, .int (nI cn)]))] sz) (va_Qi (fun (r : Int32) (_ : Unit) => (r = 1 ∧ cn = 0) ∨ (r = 0 ∧ ¬ cn = 0)) (fun _ t => xw_B dC dI [(cI, .int), (cB, .byte), (cL, .long), (cZ, .boolean), (cR, .object "PatchStore$Repository")] (va_A [(h, .inr (5, [mk_stock, mk_named, mk_places, mk_at, .int (nI cn)]))] sz) [(h, .inr (5, [mk_stock, mk_named, mk_places, mk_at, .int (nI cn)]))] t) (va_A [(h, .inr (5, [mk_stock, mk_named, mk_places, mk_at, .int (nI cn)]))] sz)) 0 0 (va_A [(h, .inr (5, [mk_stock, mk_named, mk_places, mk_at, .int (nI cn)]))] sz) := by
  refine Met.ofW (cc := prog_6_method_6_code) (maxL := 1) (ret := (Option.some Jvm.ClassFile.FieldType.boolean)) (by decide) rfl ?_
  intro p e s m args below meth c s₁ B hml hv
  obtain ⟨rfl, hsz, hP, hK, hD0⟩ := hv
  have hx := B.exec
  have hb := B.bytes
  have hr := B.returns
  have hts0 := atoms_spec (ws := ws_Mk_isWithoutChanges) B.pre
  have hts : ∀ w ∈ xg_1, w.before _ s = true := fun w h => hts0 w (List.mem_cons_of_mem _ h)
  have hown : s.vm.findClass "PatchStore$Maker" = some m.cls := findClass_of_methodNamed B.named
  have hlocks := B.notSynchronized
  subst hsz
  have hD := hD0.self (sz := s.heap.size)
  generalize hAe : va_A [(h, .inr (5, [mk_stock, mk_named, mk_places, mk_at, .int (nI cn)]))] s.heap.size = A at hD ⊢
  have hA : ∀ q : Nat, s.heap.size ≤ q → A q := fun q h => by rw [← hAe]; exact Or.inr h
  have hS : va_S A s.heap s.heap [] := va_S.rf
  have hl := lv_entry ([.ref h]) (n := 1) (Nat.le_of_ble_eq_true rfl)
  rw [lg_entry_eq]
  generalize (lg_sl ([.ref h]) ++ List.replicate (1 - (lg_sl ([.ref h])).length) Slot.unset).toArray = ls at hl ⊢
  have hl : lv_has ls 1 [(0, .ref h)] := hl
  refine lv_aload_n hx hb d_Mk_isWithoutChanges_0 rfl (lv_at hl 0 rfl) ?_
  refine va_get (D := (dC, dI)) (ci := 5) (v := .int (nI cn)) (C := R_Mk) (T := F_Mk) (N := 5) hx hb hts i_Mk hown hK hP 0 rfl rfl 4 (by decide) (hts _ gw_450) (fun _ h9 => h9) rfl d_Mk_isWithoutChanges_1 ?_
  refine lv_if_ne (tgt := 11) hx hb d_Mk_isWithoutChanges_4 (by decide) (fun c_4 => ?_) (fun c_4 => ?_)
  · have n_4 : ¬ cn = 0 := fun z => c_4 ((nI_eq (a := cn) (b := 0) (by omega) (by omega)).mpr z)
    refine lv_iconst (v := 0) hx hb d_Mk_isWithoutChanges_11 (by decide) ?_
    exact W.zret (v := 0) hx hb hr nz_b0 (fun t ht hW => ⟨⟨_, (), rfl, Or.inr ⟨rfl, by omega⟩, by rw [ht]; exact hP, va_K.moved hW.alike hK, hD⟩, hS.F ht⟩) hS.2.2 d_Mk_isWithoutChanges_12
  · have n_4 : cn = 0 := (nI_eq (a := cn) (b := 0) (by omega) (by omega)).mp c_4
    refine lv_iconst (v := 1) hx hb d_Mk_isWithoutChanges_7 (by decide) ?_
    refine lv_goto (tgt := 12) hx hb d_Mk_isWithoutChanges_8 (by decide) ?_
    exact W.zret (v := 1) hx hb hr nz_b1 (fun t ht hW => ⟨⟨_, (), rfl, Or.inl ⟨rfl, by omega⟩, by rw [ht]; exact hP, va_K.moved hW.alike hK, hD⟩, hS.F ht⟩) hS.2.2 d_Mk_isWithoutChanges_12
set_option maxHeartbeats 4000000 in
set_option maxRecDepth 100000 in
/-- the head of a patch -/
theorem m_Mk_putHead (l : Launch) (dC : Nat → ClassId) (dI : Nat → Nat → Nat) (cI cB cL cZ cR : ClassId) (h sk b_y fr bh hs nmA plA : Nat) (mk_at sk_firstDependency sk_firstChange sk_dependencies sk_leansOn sk_leantBy sk_changes sk_lines : Value) (Z : StkA) (S : Stk) (bb frf hsf nm pl : Nat → Int32) (a0 cn : Nat) (sz : Nat) (I : sInv S) (R : rep S Z) (hfr : frf S.P = nI a0) (ha0 : a0 ≤ 200000) (hnm : ∀ q, q < S.P → nm q = 0 ∨ nm q = 1) (hgb : ∀ j, j < 16032 → by1 (hsf j) = hsf j) (hcn : cn < 100000) : Met l y_Mk_putHead ws_Mk_putHead ({ frames := 2, cells := 0, slots := 0, locals := 120 }) (xw_Pc dC dI [(cI, .int), (cB, .byte), (cL, .long), (cZ, .boolean), (cR, .object "PatchStore$Repository")] [.ref h] [(h, .inr (5, [.ref sk, .ref nmA, .ref plA, mk_at, .int (nI cn)])), (sk, .inr (9, [.ref b_y, .ref fr, sk_firstDependency, sk_firstChange, sk_dependencies, .ref hs, .ref bh, sk_leansOn, sk_leantBy, sk_changes, sk_lines, .int (nI S.P)])), (b_y, .inl (cB, 290000, .inl bb)), (fr, .inl (cI, 502, .inl frf)), (bh, .inl (cI, 500, .inl Z.bh)), (hs, .inl (cB, 16032, .inl hsf)), (nmA, .inl (cI, 500, .inl nm)), (plA, .inl (cI, 500, .inl pl))] sz) (va_Qv (fun u : Nat → Int32 => plR9 S nm u S.P) (fun u t => xw_B dC dI [(cI, .int), (cB, .byte), (cL, .long), (cZ, .boolean), (cR, .object "PatchStore$Repository")] (va_A [(h, .inr (5, [.ref sk, .ref nmA, .ref plA, mk_at, .int (nI cn)])), (sk, .inr (9, [.ref b_y, .ref fr, sk_firstDependency, sk_firstChange, sk_dependencies, .ref hs, .ref bh, sk_leansOn, sk_leantBy, sk_changes, sk_lines, .int (nI S.P)])), (b_y, .inl (cB, 290000, .inl bb)), (fr, .inl (cI, 502, .inl frf)), (bh, .inl (cI, 500, .inl Z.bh)), (hs, .inl (cB, 16032, .inl hsf)), (nmA, .inl (cI, 500, .inl nm)), (plA, .inl (cI, 500, .inl pl))] sz) [(h, .inr (5, [.ref sk, .ref nmA, .ref plA, .int (nI (a0 + (hdW S hsf nm (nI cn)).length)), .int (nI cn)])), (sk, .inr (9, [.ref b_y, .ref fr, sk_firstDependency, sk_firstChange, sk_dependencies, .ref hs, .ref bh, sk_leansOn, sk_leantBy, sk_changes, sk_lines, .int (nI S.P)])), (b_y, .inl (cB, 290000, .inl (wrL bb a0 (hdW S hsf nm (nI cn))))), (fr, .inl (cI, 502, .inl frf)), (bh, .inl (cI, 500, .inl Z.bh)), (hs, .inl (cB, 16032, .inl hsf)), (nmA, .inl (cI, 500, .inl nm)), (plA, .inl (cI, 500, .inl u))] t) (va_A [(h, .inr (5, [.ref sk, .ref nmA, .ref plA, mk_at, .int (nI cn)])), (sk, .inr (9, [.ref b_y, .ref fr, sk_firstDependency, sk_firstChange, sk_dependencies, .ref hs, .ref bh, sk_leansOn, sk_leantBy, sk_changes, sk_lines, .int (nI S.P)])), (b_y, .inl (cB, 290000, .inl bb)), (fr, .inl (cI, 502, .inl frf)), (bh, .inl (cI, 500, .inl Z.bh)), (hs, .inl (cB, 16032, .inl hsf)), (nmA, .inl (cI, 500, .inl nm)), (plA, .inl (cI, 500, .inl pl))] sz)) 0 0 (va_A [(h, .inr (5, [.ref sk, .ref nmA, .ref plA, mk_at, .int (nI cn)])), (sk, .inr (9, [.ref b_y, .ref fr, sk_firstDependency, sk_firstChange, sk_dependencies, .ref hs, .ref bh, sk_leansOn, sk_leantBy, sk_changes, sk_lines, .int (nI S.P)])), (b_y, .inl (cB, 290000, .inl bb)), (fr, .inl (cI, 502, .inl frf)), (bh, .inl (cI, 500, .inl Z.bh)), (hs, .inl (cB, 16032, .inl hsf)), (nmA, .inl (cI, 500, .inl nm)), (plA, .inl (cI, 500, .inl pl))] sz) := by
  refine Met.ofW (cc := prog_6_method_7_code) (maxL := 5) (ret := none) (by decide) rfl ?_
  intro p e s m args below meth c s₁ B hml hv
  obtain ⟨rfl, hsz, hP, hK, hD0⟩ := hv
  have hx := B.exec
  have hb := B.bytes
  have hr := B.returns
  have hts0 := atoms_spec (ws := ws_Mk_putHead) B.pre
  have hts : ∀ w ∈ xg_1, w.before _ s = true := fun w h => hts0 w (List.mem_cons_of_mem _ h)
  have hown : s.vm.findClass "PatchStore$Maker" = some m.cls := findClass_of_methodNamed B.named
  have hlocks := B.notSynchronized
  subst hsz
  have hD := hD0.self (sz := s.heap.size)
  generalize hAe : va_A [(h, .inr (5, [.ref sk, .ref nmA, .ref plA, mk_at, .int (nI cn)])), (sk, .inr (9, [.ref b_y, .ref fr, sk_firstDependency, sk_firstChange, sk_dependencies, .ref hs, .ref bh, sk_leansOn, sk_leantBy, sk_changes, sk_lines, .int (nI S.P)])), (b_y, .inl (cB, 290000, .inl bb)), (fr, .inl (cI, 502, .inl frf)), (bh, .inl (cI, 500, .inl Z.bh)), (hs, .inl (cB, 16032, .inl hsf)), (nmA, .inl (cI, 500, .inl nm)), (plA, .inl (cI, 500, .inl pl))] s.heap.size = A at hD ⊢
  have hA : ∀ q : Nat, s.heap.size ≤ q → A q := fun q h => by rw [← hAe]; exact Or.inr h
  have hS : va_S A s.heap s.heap [] := va_S.rf
  have hl := lv_entry ([.ref h]) (n := 5) (Nat.le_of_ble_eq_true rfl)
  rw [lg_entry_eq]
  generalize (lg_sl ([.ref h]) ++ List.replicate (5 - (lg_sl ([.ref h])).length) Slot.unset).toArray = ls at hl ⊢
  have hl : lv_has ls 5 [(0, .ref h)] := hl
  generalize hQe : MQ _ _ _ _ _ _ _ = Q
  have hP5 := I.hP
  refine lv_iconst (v := 0) hx hb d_Mk_putHead_0 (by decide) ?_
  refine lv_istore_n (lv' := [(1, .int 0), (0, .ref h)]) hx hb d_Mk_putHead_1 rfl hl (by decide) rfl (fun ls hl => ?_)
  refine lv_iconst (v := 0) hx hb d_Mk_putHead_2 (by decide) ?_
  refine lv_istore_n (lv' := [(2, .int 0), (1, .int 0), (0, .ref h)]) hx hb d_Mk_putHead_3 rfl hl (by decide) rfl (fun ls hl => ?_)
  have loop_4 : ∀ (n9 : Nat) (i : Nat) (H : Heap) (locs : List Loc) (ls : Array Slot), S.P - i < n9 → (i ≤ S.P) → va_P (dC, dI) classes [(h, .inr (5, [.ref sk, .ref nmA, .ref plA, mk_at, .int (nI cn)])), (sk, .inr (9, [.ref b_y, .ref fr, sk_firstDependency, sk_firstChange, sk_dependencies, .ref hs, .ref bh, sk_leansOn, sk_leantBy, sk_changes, sk_lines, .int (nI S.P)])), (b_y, .inl (cB, 290000, .inl bb)), (fr, .inl (cI, 502, .inl frf)), (bh, .inl (cI, 500, .inl Z.bh)), (hs, .inl (cB, 16032, .inl hsf)), (nmA, .inl (cI, 500, .inl nm)), (plA, .inl (cI, 500, .inl pl))] H → va_D A [(h, .inr (5, [.ref sk, .ref nmA, .ref plA, mk_at, .int (nI cn)])), (sk, .inr (9, [.ref b_y, .ref fr, sk_firstDependency, sk_firstChange, sk_dependencies, .ref hs, .ref bh, sk_leansOn, sk_leantBy, sk_changes, sk_lines, .int (nI S.P)])), (b_y, .inl (cB, 290000, .inl bb)), (fr, .inl (cI, 502, .inl frf)), (bh, .inl (cI, 500, .inl Z.bh)), (hs, .inl (cB, 16032, .inl hsf)), (nmA, .inl (cI, 500, .inl nm)), (plA, .inl (cI, 500, .inl pl))] → va_S A s.heap H locs → lv_has ls 5 [(0, .ref h), (1, .int (nI (cnt (nmd nm) i))), (2, .int (nI i))] → W p l e (headSpec ws_Mk_putHead ({ frames := 2, cells := 0, slots := 0, locals := 120 })).room s m ([.ref h] : List Value).toArray below meth c H locs 0 0 Q (F0 m 4 ls []) := by
    intro n9
    induction n9 with
    | zero => intro i H locs ls hm; exact absurd hm (Nat.not_lt_zero _)
    | succ n9 ih_4 =>
      intro i H locs ls hm hi hP hD hS hl
      refine lv_iload_n hx hb d_Mk_putHead_4 rfl (lv_at hl 2 rfl) ?_
      refine lv_aload_n hx hb d_Mk_putHead_5 rfl (lv_at hl 0 rfl) ?_
      refine va_get (D := (dC, dI)) (ci := 5) (v := .ref sk) (C := R_Mk) (T := F_Mk) (N := 5) hx hb hts i_Mk hown hK hP 0 rfl rfl 0 (by decide) (hts _ gw_446) (fun _ h9 => h9) rfl d_Mk_putHead_6 ?_
      refine va_get (D := (dC, dI)) (ci := 9) (v := .int (nI S.P)) (C := R_St) (T := F_St) (N := 12) hx hb hts i_St hown hK hP 1 rfl rfl 11 (by decide) (hts _ gw_240) (fun _ h9 => h9) rfl d_Mk_putHead_9 ?_
      refine lv_icmp_ge (tgt := 30) hx hb d_Mk_putHead_12 (by decide) (fun c_12 => ?_) (fun c_12 => ?_)
      · have n_12 : S.P ≤ i := (nI_leI (a := S.P) (b := i) (by omega) (by omega)).mp c_12
        have hiP : i = S.P := by omega
        rw [hiP] at hl
        refine lv_aload_n hx hb d_Mk_putHead_30 rfl (lv_at hl 0 rfl) ?_
        refine lv_aload_n hx hb d_Mk_putHead_31 rfl (lv_at hl 0 rfl) ?_
        refine va_get (D := (dC, dI)) (ci := 5) (v := .ref sk) (C := R_Mk) (T := F_Mk) (N := 5) hx hb hts i_Mk hown hK hP 0 rfl rfl 0 (by decide) (hts _ gw_446) (fun _ h9 => h9) rfl d_Mk_putHead_32 ?_
        refine va_get (D := (dC, dI)) (ci := 9) (v := .ref fr) (C := R_St) (T := F_St) (N := 12) hx hb hts i_St hown hK hP 1 rfl rfl 1 (by decide) (hts _ gw_192) (fun _ h9 => h9) rfl d_Mk_putHead_35 ?_
        refine lv_aload_n hx hb d_Mk_putHead_38 rfl (lv_at hl 0 rfl) ?_
        refine va_get (D := (dC, dI)) (ci := 5) (v := .ref sk) (C := R_Mk) (T := F_Mk) (N := 5) hx hb hts i_Mk hown hK hP 0 rfl rfl 0 (by decide) (hts _ gw_446) (fun _ h9 => h9) rfl d_Mk_putHead_39 ?_
        refine va_get (D := (dC, dI)) (ci := 9) (v := .int (nI S.P)) (C := R_St) (T := F_St) (N := 12) hx hb hts i_St hown hK hP 1 rfl rfl 11 (by decide) (hts _ gw_240) (fun _ h9 => h9) rfl d_Mk_putHead_42 ?_
        refine va_iald hx hb hK hP 3 0 rfl rfl (vp_in_nI (by omega) (by omega)) d_Mk_putHead_45 ?_
        rw [show (nI S.P).toNatClampNeg = S.P from nI_clamp (by omega)]
        refine lv_topi (fun x_1 ex_1 => ?_)
        obtain rfl : x_1 = nI a0 := by rw [ex_1]; first | done | (exact hfr)
        refine va_put (D := (dC, dI)) (ci := 5) (v := .int (nI a0)) (ty := .int) (C := R_Mk) (T := F_Mk) (N := 5) hx hb hts i_Mk t_Mk t_Mk_ok n_Mk hown hK hP hD hS 0 rfl rfl 3 (by decide) (hts _ gw_449) (fun _ h9 => h9) rfl (by decide +kernel) rfl rfl (Nat.le_of_ble_eq_true rfl) d_Mk_putHead_46 (fun H locs hP hD hS => ?_)
        have hP : va_P (dC, dI) classes [(h, .inr (5, [.ref sk, .ref nmA, .ref plA, .int (nI a0), .int (nI cn)])), (sk, .inr (9, [.ref b_y, .ref fr, sk_firstDependency, sk_firstChange, sk_dependencies, .ref hs, .ref bh, sk_leansOn, sk_leantBy, sk_changes, sk_lines, .int (nI S.P)])), (b_y, .inl (cB, 290000, .inl bb)), (fr, .inl (cI, 502, .inl frf)), (bh, .inl (cI, 500, .inl Z.bh)), (hs, .inl (cB, 16032, .inl hsf)), (nmA, .inl (cI, 500, .inl nm)), (plA, .inl (cI, 500, .inl pl))] H := hP
        have hD : va_D A [(h, .inr (5, [.ref sk, .ref nmA, .ref plA, .int (nI a0), .int (nI cn)])), (sk, .inr (9, [.ref b_y, .ref fr, sk_firstDependency, sk_firstChange, sk_dependencies, .ref hs, .ref bh, sk_leansOn, sk_leantBy, sk_changes, sk_lines, .int (nI S.P)])), (b_y, .inl (cB, 290000, .inl bb)), (fr, .inl (cI, 502, .inl frf)), (bh, .inl (cI, 500, .inl Z.bh)), (hs, .inl (cB, 16032, .inl hsf)), (nmA, .inl (cI, 500, .inl nm)), (plA, .inl (cI, 500, .inl pl))] := hD
        rw [← wrL_nil bb a0, show nI a0 = nI (a0 + ([] : List Int32).length) from rfl] at hP hD
        refine lv_aload_n hx hb d_Mk_putHead_49 rfl (lv_at hl 0 rfl) ?_
        refine lv_iload_n hx hb d_Mk_putHead_50 rfl (lv_at hl 1 rfl) ?_
        have hPc := hP.sub (ws' := [(h, .inr (5, [.ref sk, .ref nmA, .ref plA, .int (nI (a0 + ([] : List Int32).length)), .int (nI cn)])), (sk, .inr (9, [.ref b_y, .ref fr, sk_firstDependency, sk_firstChange, sk_dependencies, .ref hs, .ref bh, sk_leansOn, sk_leantBy, sk_changes, sk_lines, .int (nI S.P)])), (b_y, .inl (cB, 290000, .inl (wrL bb a0 ([] : List Int32))))]) [0, 1, 2] rfl
        have hDc := hD.sub (ws' := [(h, .inr (5, [.ref sk, .ref nmA, .ref plA, .int (nI (a0 + ([] : List Int32).length)), .int (nI cn)])), (sk, .inr (9, [.ref b_y, .ref fr, sk_firstDependency, sk_firstChange, sk_dependencies, .ref hs, .ref bh, sk_leansOn, sk_leantBy, sk_changes, sk_lines, .int (nI S.P)])), (b_y, .inl (cB, 290000, .inl (wrL bb a0 ([] : List Int32))))]) [0, 1, 2] (by decide) rfl
        have hFc := va_free (wc := [(h, .inr (5, [.ref sk, .ref nmA, .ref plA, .int (nI (a0 + ([] : List Int32).length)), .int (nI cn)])), (sk, .inr (9, [.ref b_y, .ref fr, sk_firstDependency, sk_firstChange, sk_dependencies, .ref hs, .ref bh, sk_leansOn, sk_leantBy, sk_changes, sk_lines, .int (nI S.P)])), (b_y, .inl (cB, 290000, .inl (wrL bb a0 ([] : List Int32))))]) hD hS hA [0, 1, 2] rfl
        refine va_callv (va_runV (As := [.int (nI (cnt (nmd nm) S.P))]) (rest := []) ⟨hx, hb, hml, hown, hts⟩ (m_Mk_putTwo l dC dI cI cB cL cZ cR h sk b_y (.ref nmA) (.ref plA) (.int (nI cn)) (.ref fr) (sk_firstDependency) (sk_firstChange) (sk_dependencies) (.ref hs) (.ref bh) (sk_leansOn) (sk_leantBy) (sk_changes) (sk_lines) (.int (nI S.P)) bb a0 ([] : List Int32) (nI (cnt (nmd nm) S.P)) H.size (by simp only [List.length_nil]; omega)) (cwV 1 hts (xg_V gw_741 gw_742 gw_743 gw_10 gw_744) rfl rfl rfl (by decide +kernel) ⟨Nat.le_of_ble_eq_true rfl, Nat.le_of_ble_eq_true rfl⟩) ⟨xw_blind, va_recv hK hPc (ci := 5) (q0 := 0) rfl rfl, fun U hU hW => ⟨rfl, by rw [hU], by rw [hU]; exact hPc, va_K.moved hW.alike hK, hDc.weaken (fun _ _ _ _ => trivial)⟩⟩ rfl rfl hl.1 rfl (lv_room (Nat.le_of_ble_eq_true rfl)) d_Mk_putHead_51 ⟨Nat.le_of_ble_eq_true rfl, Nat.le_of_ble_eq_true rfl⟩) hS (fun q _ h => hFc q h) hFc (fun u9 t H1 locs ht hvm hw hB hz1 hk1 hS => ?_)
        obtain ⟨hP1, hK1, hD1⟩ := hB
        rw [ht] at hP1
        obtain ⟨hP, hD⟩ := va_join (wr := [(fr, .inl (cI, 502, .inl frf)), (bh, .inl (cI, 500, .inl Z.bh)), (hs, .inl (cB, 16032, .inl hsf)), (nmA, .inl (cI, 500, .inl nm)), (plA, .inl (cI, 500, .inl pl))]) (w1 := [(h, .inr (5, [.ref sk, .ref nmA, .ref plA, .int (nI (a0 + (([] : List Int32) ++ by2 (nI (cnt (nmd nm) S.P))).length)), .int (nI cn)])), (sk, .inr (9, [.ref b_y, .ref fr, sk_firstDependency, sk_firstChange, sk_dependencies, .ref hs, .ref bh, sk_leansOn, sk_leantBy, sk_changes, sk_lines, .int (nI S.P)])), (b_y, .inl (cB, 290000, .inl (wrL bb a0 (([] : List Int32) ++ by2 (nI (cnt (nmd nm) S.P))))))]) hP hD [0, 1, 2] [3, 4, 5, 6, 7] rfl rfl (by decide) (by decide) hk1 hFc hP1 hD1
        generalize H1 = H at hP hS ⊢
        have hP : va_P (dC, dI) classes [(fr, .inl (cI, 502, .inl frf)), (bh, .inl (cI, 500, .inl Z.bh)), (hs, .inl (cB, 16032, .inl hsf)), (nmA, .inl (cI, 500, .inl nm)), (plA, .inl (cI, 500, .inl pl)), (h, .inr (5, [.ref sk, .ref nmA, .ref plA, .int (nI (a0 + (([] : List Int32) ++ by2 (nI (cnt (nmd nm) S.P))).length)), .int (nI cn)])), (sk, .inr (9, [.ref b_y, .ref fr, sk_firstDependency, sk_firstChange, sk_dependencies, .ref hs, .ref bh, sk_leansOn, sk_leantBy, sk_changes, sk_lines, .int (nI S.P)])), (b_y, .inl (cB, 290000, .inl (wrL bb a0 (([] : List Int32) ++ by2 (nI (cnt (nmd nm) S.P))))))] H := hP
        have hD : va_D A [(fr, .inl (cI, 502, .inl frf)), (bh, .inl (cI, 500, .inl Z.bh)), (hs, .inl (cB, 16032, .inl hsf)), (nmA, .inl (cI, 500, .inl nm)), (plA, .inl (cI, 500, .inl pl)), (h, .inr (5, [.ref sk, .ref nmA, .ref plA, .int (nI (a0 + (([] : List Int32) ++ by2 (nI (cnt (nmd nm) S.P))).length)), .int (nI cn)])), (sk, .inr (9, [.ref b_y, .ref fr, sk_firstDependency, sk_firstChange, sk_dependencies, .ref hs, .ref bh, sk_leansOn, sk_leantBy, sk_changes, sk_lines, .int (nI S.P)])), (b_y, .inl (cB, 290000, .inl (wrL bb a0 (([] : List Int32) ++ by2 (nI (cnt (nmd nm) S.P))))))] := hD
        refine lv_iconst (v := 0) hx hb d_Mk_putHead_54 (by decide) ?_
        refine lv_istore_n (lv' := [(2, .int 0), (0, .ref h), (1, .int (nI (cnt (nmd nm) S.P)))]) hx hb d_Mk_putHead_55 rfl hl (by decide) rfl (fun ls hl => ?_)
        refine lv_iconst (v := 0) hx hb d_Mk_putHead_56 (by decide) ?_
        refine lv_istore_n (lv' := [(3, .int 0), (2, .int 0), (0, .ref h), (1, .int (nI (cnt (nmd nm) S.P)))]) hx hb d_Mk_putHead_57 rfl hl (by decide) rfl (fun ls hl => ?_)
        rw [show (([] : List Int32) ++ by2 (nI (cnt (nmd nm) S.P))) = (by2 (nI (cnt (nmd nm) S.P)) ++ hdL S hsf nm 0) from by simp only [List.nil_append]; exact (List.append_nil _).symm] at hP hD
        have loop_58 : ∀ (n9 : Nat) (i : Nat) (plu : Nat → Int32) (H : Heap) (locs : List Loc) (ls : Array Slot), S.P - i < n9 → (i ≤ S.P) → (plR9 S nm plu i) → va_P (dC, dI) classes [(h, .inr (5, [.ref sk, .ref nmA, .ref plA, .int (nI (a0 + (by2 (nI (cnt (nmd nm) S.P)) ++ hdL S hsf nm i).length)), .int (nI cn)])), (sk, .inr (9, [.ref b_y, .ref fr, sk_firstDependency, sk_firstChange, sk_dependencies, .ref hs, .ref bh, sk_leansOn, sk_leantBy, sk_changes, sk_lines, .int (nI S.P)])), (b_y, .inl (cB, 290000, .inl (wrL bb a0 (by2 (nI (cnt (nmd nm) S.P)) ++ hdL S hsf nm i)))), (fr, .inl (cI, 502, .inl frf)), (bh, .inl (cI, 500, .inl Z.bh)), (hs, .inl (cB, 16032, .inl hsf)), (nmA, .inl (cI, 500, .inl nm)), (plA, .inl (cI, 500, .inl plu))] H → va_D A [(h, .inr (5, [.ref sk, .ref nmA, .ref plA, .int (nI (a0 + (by2 (nI (cnt (nmd nm) S.P)) ++ hdL S hsf nm i).length)), .int (nI cn)])), (sk, .inr (9, [.ref b_y, .ref fr, sk_firstDependency, sk_firstChange, sk_dependencies, .ref hs, .ref bh, sk_leansOn, sk_leantBy, sk_changes, sk_lines, .int (nI S.P)])), (b_y, .inl (cB, 290000, .inl (wrL bb a0 (by2 (nI (cnt (nmd nm) S.P)) ++ hdL S hsf nm i)))), (fr, .inl (cI, 502, .inl frf)), (bh, .inl (cI, 500, .inl Z.bh)), (hs, .inl (cB, 16032, .inl hsf)), (nmA, .inl (cI, 500, .inl nm)), (plA, .inl (cI, 500, .inl plu))] → va_S A s.heap H locs → lv_has ls 5 [(0, .ref h), (2, .int (nI (cnt (nmb S nm) i))), (3, .int (nI i))] → W p l e (headSpec ws_Mk_putHead ({ frames := 2, cells := 0, slots := 0, locals := 120 })).room s m ([.ref h] : List Value).toArray below meth c H locs 0 0 Q (F0 m 58 ls []) := by
          intro n9
          induction n9 with
          | zero => intro i plu H locs ls hm; exact absurd hm (Nat.not_lt_zero _)
          | succ n9 ih_58 =>
            intro i plu H locs ls hm hi hpl hP hD hS hl
            have hlh : (by2 (nI (cnt (nmd nm) S.P)) ++ hdL S hsf nm i).length = 2 + 32 * (cnt (nmb S nm) i) := by rw [List.length_append, hdL_len]; rfl
            have hcb := cnt_le (nmb S nm) i
            refine lv_iload_n hx hb d_Mk_putHead_58 rfl (lv_at hl 2 rfl) ?_
            refine lv_aload_n hx hb d_Mk_putHead_59 rfl (lv_at hl 0 rfl) ?_
            refine va_get (D := (dC, dI)) (ci := 5) (v := .ref sk) (C := R_Mk) (T := F_Mk) (N := 5) hx hb hts i_Mk hown hK hP 0 rfl rfl 0 (by decide) (hts _ gw_446) (fun _ h9 => h9) rfl d_Mk_putHead_60 ?_
            refine va_get (D := (dC, dI)) (ci := 9) (v := .int (nI S.P)) (C := R_St) (T := F_St) (N := 12) hx hb hts i_St hown hK hP 1 rfl rfl 11 (by decide) (hts _ gw_240) (fun _ h9 => h9) rfl d_Mk_putHead_63 ?_
            refine lv_icmp_ge (tgt := 125) hx hb d_Mk_putHead_66 (by decide) (fun c_66 => ?_) (fun c_66 => ?_)
            · have n_66 : S.P ≤ i := (nI_leI (a := S.P) (b := i) (by omega) (by omega)).mp c_66
              have hiP : i = S.P := by omega
              rw [hiP] at hP hD hpl hlh hcb
              refine lv_aload_n hx hb d_Mk_putHead_125 rfl (lv_at hl 0 rfl) ?_
              refine lv_aload_n hx hb d_Mk_putHead_126 rfl (lv_at hl 0 rfl) ?_
              refine va_get (D := (dC, dI)) (ci := 5) (v := .int (nI cn)) (C := R_Mk) (T := F_Mk) (N := 5) hx hb hts i_Mk hown hK hP 0 rfl rfl 4 (by decide) (hts _ gw_450) (fun _ h9 => h9) rfl d_Mk_putHead_127 ?_
              have hPc := hP.sub (ws' := [(h, .inr (5, [.ref sk, .ref nmA, .ref plA, .int (nI (a0 + (by2 (nI (cnt (nmd nm) S.P)) ++ hdL S hsf nm S.P).length)), .int (nI cn)])), (sk, .inr (9, [.ref b_y, .ref fr, sk_firstDependency, sk_firstChange, sk_dependencies, .ref hs, .ref bh, sk_leansOn, sk_leantBy, sk_changes, sk_lines, .int (nI S.P)])), (b_y, .inl (cB, 290000, .inl (wrL bb a0 (by2 (nI (cnt (nmd nm) S.P)) ++ hdL S hsf nm S.P))))]) [0, 1, 2] rfl
              have hDc := hD.sub (ws' := [(h, .inr (5, [.ref sk, .ref nmA, .ref plA, .int (nI (a0 + (by2 (nI (cnt (nmd nm) S.P)) ++ hdL S hsf nm S.P).length)), .int (nI cn)])), (sk, .inr (9, [.ref b_y, .ref fr, sk_firstDependency, sk_firstChange, sk_dependencies, .ref hs, .ref bh, sk_leansOn, sk_leantBy, sk_changes, sk_lines, .int (nI S.P)])), (b_y, .inl (cB, 290000, .inl (wrL bb a0 (by2 (nI (cnt (nmd nm) S.P)) ++ hdL S hsf nm S.P))))]) [0, 1, 2] (by decide) rfl
              have hFc := va_free (wc := [(h, .inr (5, [.ref sk, .ref nmA, .ref plA, .int (nI (a0 + (by2 (nI (cnt (nmd nm) S.P)) ++ hdL S hsf nm S.P).length)), .int (nI cn)])), (sk, .inr (9, [.ref b_y, .ref fr, sk_firstDependency, sk_firstChange, sk_dependencies, .ref hs, .ref bh, sk_leansOn, sk_leantBy, sk_changes, sk_lines, .int (nI S.P)])), (b_y, .inl (cB, 290000, .inl (wrL bb a0 (by2 (nI (cnt (nmd nm) S.P)) ++ hdL S hsf nm S.P))))]) hD hS hA [0, 1, 2] rfl
              refine va_callv (va_runV (As := [.int (nI cn)]) (rest := []) ⟨hx, hb, hml, hown, hts⟩ (m_Mk_putTwo l dC dI cI cB cL cZ cR h sk b_y (.ref nmA) (.ref plA) (.int (nI cn)) (.ref fr) (sk_firstDependency) (sk_firstChange) (sk_dependencies) (.ref hs) (.ref bh) (sk_leansOn) (sk_leantBy) (sk_changes) (sk_lines) (.int (nI S.P)) bb a0 (by2 (nI (cnt (nmd nm) S.P)) ++ hdL S hsf nm S.P) (nI cn) H.size (by omega)) (cwV 1 hts (xg_V gw_741 gw_742 gw_743 gw_10 gw_744) rfl rfl rfl (by decide +kernel) ⟨Nat.le_of_ble_eq_true rfl, Nat.le_of_ble_eq_true rfl⟩) ⟨xw_blind, va_recv hK hPc (ci := 5) (q0 := 0) rfl rfl, fun U hU hW => ⟨rfl, by rw [hU], by rw [hU]; exact hPc, va_K.moved hW.alike hK, hDc.weaken (fun _ _ _ _ => trivial)⟩⟩ rfl rfl hl.1 rfl (lv_room (Nat.le_of_ble_eq_true rfl)) d_Mk_putHead_130 ⟨Nat.le_of_ble_eq_true rfl, Nat.le_of_ble_eq_true rfl⟩) hS (fun q _ h => hFc q h) hFc (fun u9 t H1 locs ht hvm hw hB hz1 hk1 hS => ?_)
              obtain ⟨hP1, hK1, hD1⟩ := hB
              rw [ht] at hP1
              obtain ⟨hP, hD⟩ := va_join (wr := [(fr, .inl (cI, 502, .inl frf)), (bh, .inl (cI, 500, .inl Z.bh)), (hs, .inl (cB, 16032, .inl hsf)), (nmA, .inl (cI, 500, .inl nm)), (plA, .inl (cI, 500, .inl plu))]) (w1 := [(h, .inr (5, [.ref sk, .ref nmA, .ref plA, .int (nI (a0 + ((by2 (nI (cnt (nmd nm) S.P)) ++ hdL S hsf nm S.P) ++ by2 (nI cn)).length)), .int (nI cn)])), (sk, .inr (9, [.ref b_y, .ref fr, sk_firstDependency, sk_firstChange, sk_dependencies, .ref hs, .ref bh, sk_leansOn, sk_leantBy, sk_changes, sk_lines, .int (nI S.P)])), (b_y, .inl (cB, 290000, .inl (wrL bb a0 ((by2 (nI (cnt (nmd nm) S.P)) ++ hdL S hsf nm S.P) ++ by2 (nI cn)))))]) hP hD [0, 1, 2] [3, 4, 5, 6, 7] rfl rfl (by decide) (by decide) hk1 hFc hP1 hD1
              generalize H1 = H at hP hS ⊢
              have hP : va_P (dC, dI) classes [(fr, .inl (cI, 502, .inl frf)), (bh, .inl (cI, 500, .inl Z.bh)), (hs, .inl (cB, 16032, .inl hsf)), (nmA, .inl (cI, 500, .inl nm)), (plA, .inl (cI, 500, .inl plu)), (h, .inr (5, [.ref sk, .ref nmA, .ref plA, .int (nI (a0 + ((by2 (nI (cnt (nmd nm) S.P)) ++ hdL S hsf nm S.P) ++ by2 (nI cn)).length)), .int (nI cn)])), (sk, .inr (9, [.ref b_y, .ref fr, sk_firstDependency, sk_firstChange, sk_dependencies, .ref hs, .ref bh, sk_leansOn, sk_leantBy, sk_changes, sk_lines, .int (nI S.P)])), (b_y, .inl (cB, 290000, .inl (wrL bb a0 ((by2 (nI (cnt (nmd nm) S.P)) ++ hdL S hsf nm S.P) ++ by2 (nI cn)))))] H := hP
              have hD : va_D A [(fr, .inl (cI, 502, .inl frf)), (bh, .inl (cI, 500, .inl Z.bh)), (hs, .inl (cB, 16032, .inl hsf)), (nmA, .inl (cI, 500, .inl nm)), (plA, .inl (cI, 500, .inl plu)), (h, .inr (5, [.ref sk, .ref nmA, .ref plA, .int (nI (a0 + ((by2 (nI (cnt (nmd nm) S.P)) ++ hdL S hsf nm S.P) ++ by2 (nI cn)).length)), .int (nI cn)])), (sk, .inr (9, [.ref b_y, .ref fr, sk_firstDependency, sk_firstChange, sk_dependencies, .ref hs, .ref bh, sk_leansOn, sk_leantBy, sk_changes, sk_lines, .int (nI S.P)])), (b_y, .inl (cB, 290000, .inl (wrL bb a0 ((by2 (nI (cnt (nmd nm) S.P)) ++ hdL S hsf nm S.P) ++ by2 (nI cn)))))] := hD
              rw [show ((by2 (nI (cnt (nmd nm) S.P)) ++ hdL S hsf nm S.P) ++ by2 (nI cn)) = (hdW S hsf nm (nI cn)) from by simp only [List.append_assoc]; rfl] at hP hD
              have hP := hP.sub (ws' := [(h, .inr (5, [.ref sk, .ref nmA, .ref plA, .int (nI (a0 + (hdW S hsf nm (nI cn)).length)), .int (nI cn)])), (sk, .inr (9, [.ref b_y, .ref fr, sk_firstDependency, sk_firstChange, sk_dependencies, .ref hs, .ref bh, sk_leansOn, sk_leantBy, sk_changes, sk_lines, .int (nI S.P)])), (b_y, .inl (cB, 290000, .inl (wrL bb a0 (hdW S hsf nm (nI cn))))), (fr, .inl (cI, 502, .inl frf)), (bh, .inl (cI, 500, .inl Z.bh)), (hs, .inl (cB, 16032, .inl hsf)), (nmA, .inl (cI, 500, .inl nm)), (plA, .inl (cI, 500, .inl plu))]) [5, 6, 7, 0, 1, 2, 3, 4] rfl
              have hD := hD.sub (ws' := [(h, .inr (5, [.ref sk, .ref nmA, .ref plA, .int (nI (a0 + (hdW S hsf nm (nI cn)).length)), .int (nI cn)])), (sk, .inr (9, [.ref b_y, .ref fr, sk_firstDependency, sk_firstChange, sk_dependencies, .ref hs, .ref bh, sk_leansOn, sk_leantBy, sk_changes, sk_lines, .int (nI S.P)])), (b_y, .inl (cB, 290000, .inl (wrL bb a0 (hdW S hsf nm (nI cn))))), (fr, .inl (cI, 502, .inl frf)), (bh, .inl (cI, 500, .inl Z.bh)), (hs, .inl (cB, 16032, .inl hsf)), (nmA, .inl (cI, 500, .inl nm)), (plA, .inl (cI, 500, .inl plu))]) [5, 6, 7, 0, 1, 2, 3, 4] (by decide) rfl
              rw [← hQe]
              exact W.vret hx hb hr (fun t ht hW => ⟨⟨plu, rfl, hpl, by rw [ht]; exact hP, va_K.moved hW.alike hK, hD⟩, hS.F ht⟩) hS.2.2 d_Mk_putHead_133
            · have n_66 : i < S.P := Nat.lt_of_not_le (fun z => c_66 ((nI_leI (a := S.P) (b := i) (by omega) (by omega)).mpr z))
              have hbi := I.bh i n_66
              refine lv_aload_n hx hb d_Mk_putHead_69 rfl (lv_at hl 0 rfl) ?_
              refine va_get (D := (dC, dI)) (ci := 5) (v := .ref sk) (C := R_Mk) (T := F_Mk) (N := 5) hx hb hts i_Mk hown hK hP 0 rfl rfl 0 (by decide) (hts _ gw_446) (fun _ h9 => h9) rfl d_Mk_putHead_70 ?_
              refine va_get (D := (dC, dI)) (ci := 9) (v := .ref bh) (C := R_St) (T := F_St) (N := 12) hx hb hts i_St hown hK hP 1 rfl rfl 6 (by decide) (hts _ gw_212) (fun _ h9 => h9) rfl d_Mk_putHead_73 ?_
              refine lv_iload_n hx hb d_Mk_putHead_76 rfl (lv_at hl 2 rfl) ?_
              refine va_iald hx hb hK hP 4 0 rfl rfl (vp_in_nI (by omega) (by omega)) d_Mk_putHead_77 ?_
              rw [show (nI i).toNatClampNeg = i from nI_clamp (by omega)]
              refine lv_topi (fun x_2 ex_2 => ?_)
              obtain rfl : x_2 = nI (S.BH i) := by rw [ex_2]; first | done | (exact R.bh i n_66)
              refine lv_istore (lv' := [(4, .int (nI (S.BH i))), (0, .ref h), (2, .int (nI (cnt (nmb S nm) i))), (3, .int (nI i))]) hx hb d_Mk_putHead_78 hl (by decide) rfl (fun ls hl => ?_)
              refine lv_aload_n hx hb d_Mk_putHead_80 rfl (lv_at hl 1 rfl) ?_
              refine va_get (D := (dC, dI)) (ci := 5) (v := .ref nmA) (C := R_Mk) (T := F_Mk) (N := 5) hx hb hts i_Mk hown hK hP 0 rfl rfl 1 (by decide) (hts _ gw_447) (fun _ h9 => h9) rfl d_Mk_putHead_81 ?_
              refine lv_iload hx hb d_Mk_putHead_84 (lv_at hl 0 rfl) ?_
              refine va_iald hx hb hK hP 6 0 rfl rfl (vp_in_nI (by omega) (by omega)) d_Mk_putHead_86 ?_
              rw [show (nI (S.BH i)).toNatClampNeg = (S.BH i) from nI_clamp (by omega)]
              refine lv_if_eq (tgt := 119) hx hb d_Mk_putHead_87 (by decide) (fun c_87 => ?_) (fun c_87 => ?_)
              · have hnb : ¬ nmb S nm i = true := fun z => nmd_iff.mp z c_87
                rw [show (by2 (nI (cnt (nmd nm) S.P)) ++ hdL S hsf nm i) = (by2 (nI (cnt (nmd nm) S.P)) ++ hdL S hsf nm (i + 1)) from by rw [hdL_no hnb]] at hP hD
                rw [show nI (cnt (nmb S nm) i) = nI (cnt (nmb S nm) (i + 1)) from congrArg nI (cnt_no hnb)] at hl
                refine lv_iinc (v := nI (i + 1)) (lv' := [(3, .int (nI (i + 1))), (4, .int (nI (S.BH i))), (0, .ref h), (2, .int (nI (cnt (nmb S nm) (i + 1))))]) hx hb d_Mk_putHead_119 hl (k := 3) rfl (by exact nI_add _ _) (by decide) rfl (fun ls hl => ?_)
                refine lv_goto (tgt := 58) hx hb d_Mk_putHead_122 (by decide) ?_
                exact ih_58 (i + 1) plu _ _ _ (by omega) (by omega) (hpl.no hnb) hP hD hS (lv_sub hl [2, 3, 0] rfl)
              · have hnb : nmb S nm i = true := nmd_iff.mpr c_87
                refine lv_aload_n hx hb d_Mk_putHead_90 rfl (lv_at hl 1 rfl) ?_
                refine va_get (D := (dC, dI)) (ci := 5) (v := .ref plA) (C := R_Mk) (T := F_Mk) (N := 5) hx hb hts i_Mk hown hK hP 0 rfl rfl 2 (by decide) (hts _ gw_448) (fun _ h9 => h9) rfl d_Mk_putHead_91 ?_
                refine lv_iload hx hb d_Mk_putHead_94 (lv_at hl 0 rfl) ?_
                refine lv_iload_n hx hb d_Mk_putHead_96 rfl (lv_at hl 2 rfl) ?_
                refine va_iast hx hb hK hP hD hS 7 0 rfl rfl (vp_in_nI (by omega) (by omega)) d_Mk_putHead_97 (fun H locs hP hD hS => ?_)
                rw [show (nI (S.BH i)).toNatClampNeg = (S.BH i) from nI_clamp (by omega)] at hP hD
                have hP : va_P (dC, dI) classes [(h, .inr (5, [.ref sk, .ref nmA, .ref plA, .int (nI (a0 + (by2 (nI (cnt (nmd nm) S.P)) ++ hdL S hsf nm i).length)), .int (nI cn)])), (sk, .inr (9, [.ref b_y, .ref fr, sk_firstDependency, sk_firstChange, sk_dependencies, .ref hs, .ref bh, sk_leansOn, sk_leantBy, sk_changes, sk_lines, .int (nI S.P)])), (b_y, .inl (cB, 290000, .inl (wrL bb a0 (by2 (nI (cnt (nmd nm) S.P)) ++ hdL S hsf nm i)))), (fr, .inl (cI, 502, .inl frf)), (bh, .inl (cI, 500, .inl Z.bh)), (hs, .inl (cB, 16032, .inl hsf)), (nmA, .inl (cI, 500, .inl nm)), (plA, .inl (cI, 500, .inl (upd plu (S.BH i) (nI (cnt (nmb S nm) i)))))] H := hP
                have hD : va_D A [(h, .inr (5, [.ref sk, .ref nmA, .ref plA, .int (nI (a0 + (by2 (nI (cnt (nmd nm) S.P)) ++ hdL S hsf nm i).length)), .int (nI cn)])), (sk, .inr (9, [.ref b_y, .ref fr, sk_firstDependency, sk_firstChange, sk_dependencies, .ref hs, .ref bh, sk_leansOn, sk_leantBy, sk_changes, sk_lines, .int (nI S.P)])), (b_y, .inl (cB, 290000, .inl (wrL bb a0 (by2 (nI (cnt (nmd nm) S.P)) ++ hdL S hsf nm i)))), (fr, .inl (cI, 502, .inl frf)), (bh, .inl (cI, 500, .inl Z.bh)), (hs, .inl (cB, 16032, .inl hsf)), (nmA, .inl (cI, 500, .inl nm)), (plA, .inl (cI, 500, .inl (upd plu (S.BH i) (nI (cnt (nmb S nm) i)))))] := hD
                refine lv_iinc (v := nI ((cnt (nmb S nm) i) + 1)) (lv' := [(2, .int (nI ((cnt (nmb S nm) i) + 1))), (4, .int (nI (S.BH i))), (0, .ref h), (3, .int (nI i))]) hx hb d_Mk_putHead_98 hl (k := 2) rfl (by exact nI_add _ _) (by decide) rfl (fun ls hl => ?_)
                refine lv_aload_n hx hb d_Mk_putHead_101 rfl (lv_at hl 2 rfl) ?_
                refine lv_aload_n hx hb d_Mk_putHead_102 rfl (lv_at hl 2 rfl) ?_
                refine va_get (D := (dC, dI)) (ci := 5) (v := .ref sk) (C := R_Mk) (T := F_Mk) (N := 5) hx hb hts i_Mk hown hK hP 0 rfl rfl 0 (by decide) (hts _ gw_446) (fun _ h9 => h9) rfl d_Mk_putHead_103 ?_
                refine va_get (D := (dC, dI)) (ci := 9) (v := .ref hs) (C := R_St) (T := F_St) (N := 12) hx hb hts i_St hown hK hP 1 rfl rfl 5 (by decide) (hts _ gw_206) (fun _ h9 => h9) rfl d_Mk_putHead_106 ?_
                refine lv_iload hx hb d_Mk_putHead_109 (lv_at hl 1 rfl) ?_
                refine lv_bipush (v := 32) hx hb d_Mk_putHead_111 (by decide) ?_
                refine lv_imul hx hb d_Mk_putHead_113 ?_
                refine lv_topi (fun x_3 ex_3 => ?_)
                obtain rfl : x_3 = nI ((S.BH i) * 32) := by rw [ex_3]; first | done | (exact nI_mul _ _)
                refine lv_bipush (v := 32) hx hb d_Mk_putHead_114 (by decide) ?_
                refine lv_topi (fun x_4 ex_4 => ?_)
                obtain rfl : x_4 = nI 32 := by rw [ex_4]; first | done | (rfl)
                have hPc := hP.sub (ws' := [(h, .inr (5, [.ref sk, .ref nmA, .ref plA, .int (nI (a0 + (by2 (nI (cnt (nmd nm) S.P)) ++ hdL S hsf nm i).length)), .int (nI cn)])), (sk, .inr (9, [.ref b_y, .ref fr, sk_firstDependency, sk_firstChange, sk_dependencies, .ref hs, .ref bh, sk_leansOn, sk_leantBy, sk_changes, sk_lines, .int (nI S.P)])), (b_y, .inl (cB, 290000, .inl (wrL bb a0 (by2 (nI (cnt (nmd nm) S.P)) ++ hdL S hsf nm i)))), (hs, .inl (cB, 16032, .inl hsf))]) [0, 1, 2, 5] rfl
                have hDc := hD.sub (ws' := [(h, .inr (5, [.ref sk, .ref nmA, .ref plA, .int (nI (a0 + (by2 (nI (cnt (nmd nm) S.P)) ++ hdL S hsf nm i).length)), .int (nI cn)])), (sk, .inr (9, [.ref b_y, .ref fr, sk_firstDependency, sk_firstChange, sk_dependencies, .ref hs, .ref bh, sk_leansOn, sk_leantBy, sk_changes, sk_lines, .int (nI S.P)])), (b_y, .inl (cB, 290000, .inl (wrL bb a0 (by2 (nI (cnt (nmd nm) S.P)) ++ hdL S hsf nm i)))), (hs, .inl (cB, 16032, .inl hsf))]) [0, 1, 2, 5] (by decide) rfl
                have hFc := va_free (wc := [(h, .inr (5, [.ref sk, .ref nmA, .ref plA, .int (nI (a0 + (by2 (nI (cnt (nmd nm) S.P)) ++ hdL S hsf nm i).length)), .int (nI cn)])), (sk, .inr (9, [.ref b_y, .ref fr, sk_firstDependency, sk_firstChange, sk_dependencies, .ref hs, .ref bh, sk_leansOn, sk_leantBy, sk_changes, sk_lines, .int (nI S.P)])), (b_y, .inl (cB, 290000, .inl (wrL bb a0 (by2 (nI (cnt (nmd nm) S.P)) ++ hdL S hsf nm i)))), (hs, .inl (cB, 16032, .inl hsf))]) hD hS hA [0, 1, 2, 5] rfl
                refine va_callv (va_runV (As := [.ref hs, .int (nI ((S.BH i) * 32)), .int (nI 32)]) (rest := []) ⟨hx, hb, hml, hown, hts⟩ (m_Mk_putBytes l dC dI cI cB cL cZ cR h sk b_y hs 16032 (.ref nmA) (.ref plA) (.int (nI cn)) (.ref fr) (sk_firstDependency) (sk_firstChange) (sk_dependencies) (.ref hs) (.ref bh) (sk_leansOn) (sk_leantBy) (sk_changes) (sk_lines) (.int (nI S.P)) bb hsf a0 (S.BH i * 32) 32 (by2 (nI (cnt (nmd nm) S.P)) ++ hdL S hsf nm i) H.size (by omega) (by decide) (by omega) hgb) (cwV 3 hts (xg_V gw_746 gw_747 gw_748 gw_10 gw_749) rfl rfl rfl (by decide +kernel) ⟨Nat.le_of_ble_eq_true rfl, Nat.le_of_ble_eq_true rfl⟩) ⟨xw_blind, va_recv hK hPc (ci := 5) (q0 := 0) rfl rfl, fun U hU hW => ⟨rfl, by rw [hU], by rw [hU]; exact hPc, va_K.moved hW.alike hK, hDc.weaken (fun _ _ _ _ => trivial)⟩⟩ rfl rfl hl.1 rfl (lv_room (Nat.le_of_ble_eq_true rfl)) d_Mk_putHead_116 ⟨Nat.le_of_ble_eq_true rfl, Nat.le_of_ble_eq_true rfl⟩) hS (fun q _ h => hFc q h) hFc (fun u9 t H1 locs ht hvm hw hB hz1 hk1 hS => ?_)
                obtain ⟨hP1, hK1, hD1⟩ := hB
                rw [ht] at hP1
                obtain ⟨hP, hD⟩ := va_join (wr := [(fr, .inl (cI, 502, .inl frf)), (bh, .inl (cI, 500, .inl Z.bh)), (nmA, .inl (cI, 500, .inl nm)), (plA, .inl (cI, 500, .inl (upd plu (S.BH i) (nI (cnt (nmb S nm) i)))))]) (w1 := [(h, .inr (5, [.ref sk, .ref nmA, .ref plA, .int (nI (a0 + ((by2 (nI (cnt (nmd nm) S.P)) ++ hdL S hsf nm i) ++ byL hsf (S.BH i * 32) 32).length)), .int (nI cn)])), (sk, .inr (9, [.ref b_y, .ref fr, sk_firstDependency, sk_firstChange, sk_dependencies, .ref hs, .ref bh, sk_leansOn, sk_leantBy, sk_changes, sk_lines, .int (nI S.P)])), (b_y, .inl (cB, 290000, .inl (wrL bb a0 ((by2 (nI (cnt (nmd nm) S.P)) ++ hdL S hsf nm i) ++ byL hsf (S.BH i * 32) 32)))), (hs, .inl (cB, 16032, .inl hsf))]) hP hD [0, 1, 2, 5] [3, 4, 6, 7] rfl rfl (by decide) (by decide) hk1 hFc hP1 hD1
                generalize H1 = H at hP hS ⊢
                have hP : va_P (dC, dI) classes [(fr, .inl (cI, 502, .inl frf)), (bh, .inl (cI, 500, .inl Z.bh)), (nmA, .inl (cI, 500, .inl nm)), (plA, .inl (cI, 500, .inl (upd plu (S.BH i) (nI (cnt (nmb S nm) i))))), (h, .inr (5, [.ref sk, .ref nmA, .ref plA, .int (nI (a0 + ((by2 (nI (cnt (nmd nm) S.P)) ++ hdL S hsf nm i) ++ byL hsf (S.BH i * 32) 32).length)), .int (nI cn)])), (sk, .inr (9, [.ref b_y, .ref fr, sk_firstDependency, sk_firstChange, sk_dependencies, .ref hs, .ref bh, sk_leansOn, sk_leantBy, sk_changes, sk_lines, .int (nI S.P)])), (b_y, .inl (cB, 290000, .inl (wrL bb a0 ((by2 (nI (cnt (nmd nm) S.P)) ++ hdL S hsf nm i) ++ byL hsf (S.BH i * 32) 32)))), (hs, .inl (cB, 16032, .inl hsf))] H := hP
                have hD : va_D A [(fr, .inl (cI, 502, .inl frf)), (bh, .inl (cI, 500, .inl Z.bh)), (nmA, .inl (cI, 500, .inl nm)), (plA, .inl (cI, 500, .inl (upd plu (S.BH i) (nI (cnt (nmb S nm) i))))), (h, .inr (5, [.ref sk, .ref nmA, .ref plA, .int (nI (a0 + ((by2 (nI (cnt (nmd nm) S.P)) ++ hdL S hsf nm i) ++ byL hsf (S.BH i * 32) 32).length)), .int (nI cn)])), (sk, .inr (9, [.ref b_y, .ref fr, sk_firstDependency, sk_firstChange, sk_dependencies, .ref hs, .ref bh, sk_leansOn, sk_leantBy, sk_changes, sk_lines, .int (nI S.P)])), (b_y, .inl (cB, 290000, .inl (wrL bb a0 ((by2 (nI (cnt (nmd nm) S.P)) ++ hdL S hsf nm i) ++ byL hsf (S.BH i * 32) 32)))), (hs, .inl (cB, 16032, .inl hsf))] := hD
                rw [show ((by2 (nI (cnt (nmd nm) S.P)) ++ hdL S hsf nm i) ++ byL hsf (S.BH i * 32) 32) = (by2 (nI (cnt (nmd nm) S.P)) ++ hdL S hsf nm (i + 1)) from by rw [hdL_yes hnb, List.append_assoc]] at hP hD
                rw [show nI ((cnt (nmb S nm) i) + 1) = nI (cnt (nmb S nm) (i + 1)) from congrArg nI (cnt_yes hnb)] at hl
                refine lv_iinc (v := nI (i + 1)) (lv' := [(3, .int (nI (i + 1))), (2, .int (nI (cnt (nmb S nm) (i + 1)))), (4, .int (nI (S.BH i))), (0, .ref h)]) hx hb d_Mk_putHead_119 hl (k := 3) rfl (by exact nI_add _ _) (by decide) rfl (fun ls hl => ?_)
                refine lv_goto (tgt := 58) hx hb d_Mk_putHead_122 (by decide) ?_
                exact ih_58 (i + 1) (upd plu (S.BH i) (nI (cnt (nmb S nm) i))) _ _ _ (by omega) (by omega) (hpl.yes I n_66) (hP.sub [4, 5, 6, 0, 1, 7, 2, 3] rfl) (hD.sub [4, 5, 6, 0, 1, 7, 2, 3] (by decide) rfl) hS (lv_sub hl [3, 1, 0] rfl)
        exact loop_58 _ 0 pl _ _ _ (Nat.lt_succ_self _) (Nat.zero_le _) (fun k z => absurd z (Nat.not_lt_zero _)) (hP.sub [5, 6, 7, 0, 1, 2, 3, 4] rfl) (hD.sub [5, 6, 7, 0, 1, 2, 3, 4] (by decide) rfl) hS (lv_sub hl [2, 1, 0] rfl)
      · have n_12 : i < S.P := Nat.lt_of_not_le (fun z => c_12 ((nI_leI (a := S.P) (b := i) (by omega) (by omega)).mpr z))
        refine lv_iload_n hx hb d_Mk_putHead_15 rfl (lv_at hl 1 rfl) ?_
        refine lv_aload_n hx hb d_Mk_putHead_16 rfl (lv_at hl 0 rfl) ?_
        refine va_get (D := (dC, dI)) (ci := 5) (v := .ref nmA) (C := R_Mk) (T := F_Mk) (N := 5) hx hb hts i_Mk hown hK hP 0 rfl rfl 1 (by decide) (hts _ gw_447) (fun _ h9 => h9) rfl d_Mk_putHead_17 ?_
        refine lv_iload_n hx hb d_Mk_putHead_20 rfl (lv_at hl 2 rfl) ?_
        refine va_iald hx hb hK hP 6 0 rfl rfl (vp_in_nI (by omega) (by omega)) d_Mk_putHead_21 ?_
        rw [show (nI i).toNatClampNeg = i from nI_clamp (by omega)]
        refine lv_iadd hx hb d_Mk_putHead_22 ?_
        refine lv_topi (fun x_5 ex_5 => ?_)
        obtain rfl : x_5 = nI (cnt (nmd nm) (i + 1)) := by rw [ex_5]; first | done | (exact cnt_nmd (hnm i n_12))
        refine lv_istore_n (lv' := [(1, .int (nI (cnt (nmd nm) (i + 1)))), (0, .ref h), (2, .int (nI i))]) hx hb d_Mk_putHead_23 rfl hl (by decide) rfl (fun ls hl => ?_)
        refine lv_iinc (v := nI (i + 1)) (lv' := [(2, .int (nI (i + 1))), (1, .int (nI (cnt (nmd nm) (i + 1)))), (0, .ref h)]) hx hb d_Mk_putHead_24 hl (k := 2) rfl (by exact nI_add _ _) (by decide) rfl (fun ls hl => ?_)
        refine lv_goto (tgt := 4) hx hb d_Mk_putHead_27 (by decide) ?_
        exact ih_4 (i + 1) _ _ _ (by omega) (by omega) hP hD hS (lv_sub hl [2, 1, 0] rfl)
  exact loop_4 _ 0 _ _ _ (Nat.lt_succ_self _) (Nat.zero_le _) hP hD hS (lv_sub hl [2, 1, 0] rfl)
