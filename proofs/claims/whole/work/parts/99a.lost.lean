/-! 99a.lost.lean.txt -/
theorem gw_96 : (Jvm.Cond.fieldLink "PatchStore$Text" (162 : Nat) "PatchStore$Changes" "patch" "[I") ∈ xg_1 := xg_s1 96 rfl rfl
theorem gw_147 : (Jvm.Cond.fieldLink "PatchStore$Text" (165 : Nat) "PatchStore$Lines" "change" "[I") ∈ xg_1 := xg_s1 147 rfl rfl
theorem gw_217 : (Jvm.Cond.fieldLink "PatchStore$Text" (168 : Nat) "PatchStore$Stock" "leansOn" "[J") ∈ xg_1 := xg_s1 217 rfl rfl
theorem gw_220 : (Jvm.Cond.fieldLink "PatchStore$Text" (171 : Nat) "PatchStore$Stock" "leantBy" "[J") ∈ xg_1 := xg_s1 220 rfl rfl
theorem gw_384 : (Jvm.Cond.fieldLink "PatchStore$Text" (156 : Nat) "PatchStore$Text" "stranded" "I") ∈ xg_1 := xg_s2 144 rfl rfl
theorem gw_386 : (Jvm.Cond.fieldLink "PatchStore$Text" (153 : Nat) "PatchStore$Text" "dead" "I") ∈ xg_1 := xg_s2 146 rfl rfl
theorem gw_1089 : (Jvm.Cond.methodLink "PatchStore$Text" (159 : Nat) ({ cls := "PatchStore$Text", name := "isLost", desc := "(II)Z" } : Jvm.MethodName)) ∈ xg_1 := xg_s5 129 rfl rfl
theorem gw_1091 : (Jvm.Cond.instanceMethod ({ cls := "PatchStore$Text", name := "isLost", desc := "(II)Z" } : Jvm.MethodName)) ∈ xg_1 := xg_s5 131 rfl rfl
theorem gw_1092 : (Jvm.Cond.code ({ cls := "PatchStore$Text", name := "isLost", desc := "(II)Z" } : Jvm.MethodName) prog_11_method_14_code (9 : Nat) (Option.some Jvm.ClassFile.FieldType.boolean)) ∈ xg_1 := xg_s5 132 rfl rfl
theorem gw_1093 : (Jvm.Cond.constantLong "PatchStore$Text" (174 : Nat) (-1 : Int64)) ∈ xg_1 := xg_s5 133 rfl rfl
def y_Tx_isLost : MethodName := ⟨"PatchStore$Text", "isLost", "(II)Z"⟩
abbrev c_Tx_isLost : Cond := (Jvm.Cond.code ({ cls := "PatchStore$Text", name := "isLost", desc := "(II)Z" } : Jvm.MethodName) prog_11_method_14_code (9 : Nat) (Option.some Jvm.ClassFile.FieldType.boolean))
abbrev ws_Tx_isLost : List Cond := c_Tx_isLost :: xg_1
theorem d_Tx_isLost_0 : decode prog_11_method_14_code 0 = .ok (.iload_n 2, 1) := by decide +kernel
theorem d_Tx_isLost_1 : decode prog_11_method_14_code 1 = .ok (.iconst (-1), 1) := by decide +kernel
theorem d_Tx_isLost_2 : decode prog_11_method_14_code 2 = .ok (.if_icmp .ne 5, 3) := by decide +kernel
theorem d_Tx_isLost_5 : decode prog_11_method_14_code 5 = .ok (.iconst 0, 1) := by decide +kernel
theorem d_Tx_isLost_6 : decode prog_11_method_14_code 6 = .ok (.ireturn, 1) := by decide +kernel
theorem d_Tx_isLost_7 : decode prog_11_method_14_code 7 = .ok (.aload_n 0, 1) := by decide +kernel
theorem d_Tx_isLost_8 : decode prog_11_method_14_code 8 = .ok (.getfield 44, 3) := by decide +kernel
theorem d_Tx_isLost_11 : decode prog_11_method_14_code 11 = .ok (.getfield 162, 3) := by decide +kernel
theorem d_Tx_isLost_14 : decode prog_11_method_14_code 14 = .ok (.aload_n 0, 1) := by decide +kernel
theorem d_Tx_isLost_15 : decode prog_11_method_14_code 15 = .ok (.getfield 49, 3) := by decide +kernel
theorem d_Tx_isLost_18 : decode prog_11_method_14_code 18 = .ok (.getfield 165, 3) := by decide +kernel
theorem d_Tx_isLost_21 : decode prog_11_method_14_code 21 = .ok (.iload_n 1, 1) := by decide +kernel
theorem d_Tx_isLost_22 : decode prog_11_method_14_code 22 = .ok (.iaload, 1) := by decide +kernel
theorem d_Tx_isLost_23 : decode prog_11_method_14_code 23 = .ok (.iaload, 1) := by decide +kernel
theorem d_Tx_isLost_24 : decode prog_11_method_14_code 24 = .ok (.istore_n 3, 1) := by decide +kernel
theorem d_Tx_isLost_25 : decode prog_11_method_14_code 25 = .ok (.iload_n 3, 1) := by decide +kernel
theorem d_Tx_isLost_26 : decode prog_11_method_14_code 26 = .ok (.bipush 8, 2) := by decide +kernel
theorem d_Tx_isLost_28 : decode prog_11_method_14_code 28 = .ok (.imul, 1) := by decide +kernel
theorem d_Tx_isLost_29 : decode prog_11_method_14_code 29 = .ok (.istore 4, 2) := by decide +kernel
theorem d_Tx_isLost_31 : decode prog_11_method_14_code 31 = .ok (.aload_n 0, 1) := by decide +kernel
theorem d_Tx_isLost_32 : decode prog_11_method_14_code 32 = .ok (.getfield 18, 3) := by decide +kernel
theorem d_Tx_isLost_35 : decode prog_11_method_14_code 35 = .ok (.iload_n 2, 1) := by decide +kernel
theorem d_Tx_isLost_36 : decode prog_11_method_14_code 36 = .ok (.iaload, 1) := by decide +kernel
theorem d_Tx_isLost_37 : decode prog_11_method_14_code 37 = .ok (.bipush 8, 2) := by decide +kernel
theorem d_Tx_isLost_39 : decode prog_11_method_14_code 39 = .ok (.imul, 1) := by decide +kernel
theorem d_Tx_isLost_40 : decode prog_11_method_14_code 40 = .ok (.istore 5, 2) := by decide +kernel
theorem d_Tx_isLost_42 : decode prog_11_method_14_code 42 = .ok (.iconst 0, 1) := by decide +kernel
theorem d_Tx_isLost_43 : decode prog_11_method_14_code 43 = .ok (.istore 6, 2) := by decide +kernel
theorem d_Tx_isLost_45 : decode prog_11_method_14_code 45 = .ok (.iload 6, 2) := by decide +kernel
theorem d_Tx_isLost_47 : decode prog_11_method_14_code 47 = .ok (.bipush 8, 2) := by decide +kernel
theorem d_Tx_isLost_49 : decode prog_11_method_14_code 49 = .ok (.if_icmp .ge 82, 3) := by decide +kernel
theorem d_Tx_isLost_52 : decode prog_11_method_14_code 52 = .ok (.aload_n 0, 1) := by decide +kernel
theorem d_Tx_isLost_53 : decode prog_11_method_14_code 53 = .ok (.getfield 34, 3) := by decide +kernel
theorem d_Tx_isLost_56 : decode prog_11_method_14_code 56 = .ok (.getfield 168, 3) := by decide +kernel
theorem d_Tx_isLost_59 : decode prog_11_method_14_code 59 = .ok (.iload 4, 2) := by decide +kernel
theorem d_Tx_isLost_61 : decode prog_11_method_14_code 61 = .ok (.iload 6, 2) := by decide +kernel
theorem d_Tx_isLost_63 : decode prog_11_method_14_code 63 = .ok (.iadd, 1) := by decide +kernel
theorem d_Tx_isLost_64 : decode prog_11_method_14_code 64 = .ok (.laload, 1) := by decide +kernel
theorem d_Tx_isLost_65 : decode prog_11_method_14_code 65 = .ok (.aload_n 0, 1) := by decide +kernel
theorem d_Tx_isLost_66 : decode prog_11_method_14_code 66 = .ok (.getfield 34, 3) := by decide +kernel
theorem d_Tx_isLost_69 : decode prog_11_method_14_code 69 = .ok (.getfield 171, 3) := by decide +kernel
theorem d_Tx_isLost_72 : decode prog_11_method_14_code 72 = .ok (.iload 4, 2) := by decide +kernel
theorem d_Tx_isLost_74 : decode prog_11_method_14_code 74 = .ok (.iload 6, 2) := by decide +kernel
theorem d_Tx_isLost_76 : decode prog_11_method_14_code 76 = .ok (.iadd, 1) := by decide +kernel
theorem d_Tx_isLost_77 : decode prog_11_method_14_code 77 = .ok (.laload, 1) := by decide +kernel
theorem d_Tx_isLost_78 : decode prog_11_method_14_code 78 = .ok (.lor, 1) := by decide +kernel
theorem d_Tx_isLost_79 : decode prog_11_method_14_code 79 = .ok (.lstore 7, 2) := by decide +kernel
theorem d_Tx_isLost_81 : decode prog_11_method_14_code 81 = .ok (.iload 6, 2) := by decide +kernel
theorem d_Tx_isLost_83 : decode prog_11_method_14_code 83 = .ok (.iload_n 3, 1) := by decide +kernel
theorem d_Tx_isLost_84 : decode prog_11_method_14_code 84 = .ok (.bipush 6, 2) := by decide +kernel
theorem d_Tx_isLost_86 : decode prog_11_method_14_code 86 = .ok (.ishr, 1) := by decide +kernel
theorem d_Tx_isLost_87 : decode prog_11_method_14_code 87 = .ok (.if_icmp .ne 14, 3) := by decide +kernel
theorem d_Tx_isLost_90 : decode prog_11_method_14_code 90 = .ok (.lload 7, 2) := by decide +kernel
theorem d_Tx_isLost_92 : decode prog_11_method_14_code 92 = .ok (.lconst 1, 1) := by decide +kernel
theorem d_Tx_isLost_93 : decode prog_11_method_14_code 93 = .ok (.iload_n 3, 1) := by decide +kernel
theorem d_Tx_isLost_94 : decode prog_11_method_14_code 94 = .ok (.bipush 63, 2) := by decide +kernel
theorem d_Tx_isLost_96 : decode prog_11_method_14_code 96 = .ok (.iand, 1) := by decide +kernel
theorem d_Tx_isLost_97 : decode prog_11_method_14_code 97 = .ok (.lshl, 1) := by decide +kernel
theorem d_Tx_isLost_98 : decode prog_11_method_14_code 98 = .ok (.lor, 1) := by decide +kernel
theorem d_Tx_isLost_99 : decode prog_11_method_14_code 99 = .ok (.lstore 7, 2) := by decide +kernel
theorem d_Tx_isLost_101 : decode prog_11_method_14_code 101 = .ok (.aload_n 0, 1) := by decide +kernel
theorem d_Tx_isLost_102 : decode prog_11_method_14_code 102 = .ok (.getfield 25, 3) := by decide +kernel
theorem d_Tx_isLost_105 : decode prog_11_method_14_code 105 = .ok (.iload 5, 2) := by decide +kernel
theorem d_Tx_isLost_107 : decode prog_11_method_14_code 107 = .ok (.iload 6, 2) := by decide +kernel
theorem d_Tx_isLost_109 : decode prog_11_method_14_code 109 = .ok (.iadd, 1) := by decide +kernel
theorem d_Tx_isLost_110 : decode prog_11_method_14_code 110 = .ok (.laload, 1) := by decide +kernel
theorem d_Tx_isLost_111 : decode prog_11_method_14_code 111 = .ok (.lload 7, 2) := by decide +kernel
theorem d_Tx_isLost_113 : decode prog_11_method_14_code 113 = .ok (.ldc2_w 174, 3) := by decide +kernel
theorem d_Tx_isLost_116 : decode prog_11_method_14_code 116 = .ok (.lxor, 1) := by decide +kernel
theorem d_Tx_isLost_117 : decode prog_11_method_14_code 117 = .ok (.land, 1) := by decide +kernel
theorem d_Tx_isLost_118 : decode prog_11_method_14_code 118 = .ok (.lconst 0, 1) := by decide +kernel
theorem d_Tx_isLost_119 : decode prog_11_method_14_code 119 = .ok (.lcmp, 1) := by decide +kernel
theorem d_Tx_isLost_120 : decode prog_11_method_14_code 120 = .ok (.ifCond .eq 5, 3) := by decide +kernel
theorem d_Tx_isLost_123 : decode prog_11_method_14_code 123 = .ok (.iconst 1, 1) := by decide +kernel
theorem d_Tx_isLost_124 : decode prog_11_method_14_code 124 = .ok (.ireturn, 1) := by decide +kernel
theorem d_Tx_isLost_125 : decode prog_11_method_14_code 125 = .ok (.iinc 6 1, 3) := by decide +kernel
theorem d_Tx_isLost_128 : decode prog_11_method_14_code 128 = .ok (.goto (-83), 3) := by decide +kernel
theorem d_Tx_isLost_131 : decode prog_11_method_14_code 131 = .ok (.iconst 0, 1) := by decide +kernel
theorem d_Tx_isLost_132 : decode prog_11_method_14_code 132 = .ok (.ireturn, 1) := by decide +kernel
def y_Tx_countDeadAndStranded : MethodName := ⟨"PatchStore$Text", "countDeadAndStranded", "()V"⟩
abbrev c_Tx_countDeadAndStranded : Cond := (Jvm.Cond.code ({ cls := "PatchStore$Text", name := "countDeadAndStranded", desc := "()V" } : Jvm.MethodName) prog_11_method_13_code (3 : Nat) (Option.none : Option Jvm.ClassFile.FieldType))
abbrev ws_Tx_countDeadAndStranded : List Cond := c_Tx_countDeadAndStranded :: xg_1
theorem d_Tx_countDeadAndStranded_0 : decode prog_11_method_13_code 0 = .ok (.aload_n 0, 1) := by decide +kernel
theorem d_Tx_countDeadAndStranded_1 : decode prog_11_method_13_code 1 = .ok (.iconst 0, 1) := by decide +kernel
theorem d_Tx_countDeadAndStranded_2 : decode prog_11_method_13_code 2 = .ok (.putfield 153, 3) := by decide +kernel
theorem d_Tx_countDeadAndStranded_5 : decode prog_11_method_13_code 5 = .ok (.aload_n 0, 1) := by decide +kernel
theorem d_Tx_countDeadAndStranded_6 : decode prog_11_method_13_code 6 = .ok (.iconst 0, 1) := by decide +kernel
theorem d_Tx_countDeadAndStranded_7 : decode prog_11_method_13_code 7 = .ok (.putfield 156, 3) := by decide +kernel
theorem d_Tx_countDeadAndStranded_10 : decode prog_11_method_13_code 10 = .ok (.iconst 0, 1) := by decide +kernel
theorem d_Tx_countDeadAndStranded_11 : decode prog_11_method_13_code 11 = .ok (.istore_n 1, 1) := by decide +kernel
theorem d_Tx_countDeadAndStranded_12 : decode prog_11_method_13_code 12 = .ok (.iload_n 1, 1) := by decide +kernel
theorem d_Tx_countDeadAndStranded_13 : decode prog_11_method_13_code 13 = .ok (.aload_n 0, 1) := by decide +kernel
theorem d_Tx_countDeadAndStranded_14 : decode prog_11_method_13_code 14 = .ok (.getfield 97, 3) := by decide +kernel
theorem d_Tx_countDeadAndStranded_17 : decode prog_11_method_13_code 17 = .ok (.if_icmp .ge 82, 3) := by decide +kernel
theorem d_Tx_countDeadAndStranded_20 : decode prog_11_method_13_code 20 = .ok (.aload_n 0, 1) := by decide +kernel
theorem d_Tx_countDeadAndStranded_21 : decode prog_11_method_13_code 21 = .ok (.getfield 15, 3) := by decide +kernel
theorem d_Tx_countDeadAndStranded_24 : decode prog_11_method_13_code 24 = .ok (.iload_n 1, 1) := by decide +kernel
theorem d_Tx_countDeadAndStranded_25 : decode prog_11_method_13_code 25 = .ok (.iaload, 1) := by decide +kernel
theorem d_Tx_countDeadAndStranded_26 : decode prog_11_method_13_code 26 = .ok (.istore_n 2, 1) := by decide +kernel
theorem d_Tx_countDeadAndStranded_27 : decode prog_11_method_13_code 27 = .ok (.aload_n 0, 1) := by decide +kernel
theorem d_Tx_countDeadAndStranded_28 : decode prog_11_method_13_code 28 = .ok (.getfield 28, 3) := by decide +kernel
theorem d_Tx_countDeadAndStranded_31 : decode prog_11_method_13_code 31 = .ok (.iload_n 1, 1) := by decide +kernel
theorem d_Tx_countDeadAndStranded_32 : decode prog_11_method_13_code 32 = .ok (.iaload, 1) := by decide +kernel
theorem d_Tx_countDeadAndStranded_33 : decode prog_11_method_13_code 33 = .ok (.ifCond .eq 16, 3) := by decide +kernel
theorem d_Tx_countDeadAndStranded_36 : decode prog_11_method_13_code 36 = .ok (.aload_n 0, 1) := by decide +kernel
theorem d_Tx_countDeadAndStranded_37 : decode prog_11_method_13_code 37 = .ok (.dup, 1) := by decide +kernel
theorem d_Tx_countDeadAndStranded_38 : decode prog_11_method_13_code 38 = .ok (.getfield 153, 3) := by decide +kernel
theorem d_Tx_countDeadAndStranded_41 : decode prog_11_method_13_code 41 = .ok (.iconst 1, 1) := by decide +kernel
theorem d_Tx_countDeadAndStranded_42 : decode prog_11_method_13_code 42 = .ok (.iadd, 1) := by decide +kernel
theorem d_Tx_countDeadAndStranded_43 : decode prog_11_method_13_code 43 = .ok (.putfield 153, 3) := by decide +kernel
theorem d_Tx_countDeadAndStranded_46 : decode prog_11_method_13_code 46 = .ok (.goto 47, 3) := by decide +kernel
theorem d_Tx_countDeadAndStranded_49 : decode prog_11_method_13_code 49 = .ok (.aload_n 0, 1) := by decide +kernel
theorem d_Tx_countDeadAndStranded_50 : decode prog_11_method_13_code 50 = .ok (.iload_n 2, 1) := by decide +kernel
theorem d_Tx_countDeadAndStranded_51 : decode prog_11_method_13_code 51 = .ok (.aload_n 0, 1) := by decide +kernel
theorem d_Tx_countDeadAndStranded_52 : decode prog_11_method_13_code 52 = .ok (.getfield 49, 3) := by decide +kernel
theorem d_Tx_countDeadAndStranded_55 : decode prog_11_method_13_code 55 = .ok (.getfield 136, 3) := by decide +kernel
theorem d_Tx_countDeadAndStranded_58 : decode prog_11_method_13_code 58 = .ok (.iload_n 2, 1) := by decide +kernel
theorem d_Tx_countDeadAndStranded_59 : decode prog_11_method_13_code 59 = .ok (.iaload, 1) := by decide +kernel
theorem d_Tx_countDeadAndStranded_60 : decode prog_11_method_13_code 60 = .ok (.invokevirtual 159, 3) := by decide +kernel
theorem d_Tx_countDeadAndStranded_63 : decode prog_11_method_13_code 63 = .ok (.ifCond .ne 20, 3) := by decide +kernel
theorem d_Tx_countDeadAndStranded_66 : decode prog_11_method_13_code 66 = .ok (.aload_n 0, 1) := by decide +kernel
theorem d_Tx_countDeadAndStranded_67 : decode prog_11_method_13_code 67 = .ok (.iload_n 2, 1) := by decide +kernel
theorem d_Tx_countDeadAndStranded_68 : decode prog_11_method_13_code 68 = .ok (.aload_n 0, 1) := by decide +kernel
theorem d_Tx_countDeadAndStranded_69 : decode prog_11_method_13_code 69 = .ok (.getfield 49, 3) := by decide +kernel
theorem d_Tx_countDeadAndStranded_72 : decode prog_11_method_13_code 72 = .ok (.getfield 139, 3) := by decide +kernel
theorem d_Tx_countDeadAndStranded_75 : decode prog_11_method_13_code 75 = .ok (.iload_n 2, 1) := by decide +kernel
theorem d_Tx_countDeadAndStranded_76 : decode prog_11_method_13_code 76 = .ok (.iaload, 1) := by decide +kernel
theorem d_Tx_countDeadAndStranded_77 : decode prog_11_method_13_code 77 = .ok (.invokevirtual 159, 3) := by decide +kernel
theorem d_Tx_countDeadAndStranded_80 : decode prog_11_method_13_code 80 = .ok (.ifCond .eq 13, 3) := by decide +kernel
theorem d_Tx_countDeadAndStranded_83 : decode prog_11_method_13_code 83 = .ok (.aload_n 0, 1) := by decide +kernel
theorem d_Tx_countDeadAndStranded_84 : decode prog_11_method_13_code 84 = .ok (.dup, 1) := by decide +kernel
theorem d_Tx_countDeadAndStranded_85 : decode prog_11_method_13_code 85 = .ok (.getfield 156, 3) := by decide +kernel
theorem d_Tx_countDeadAndStranded_88 : decode prog_11_method_13_code 88 = .ok (.iconst 1, 1) := by decide +kernel
theorem d_Tx_countDeadAndStranded_89 : decode prog_11_method_13_code 89 = .ok (.iadd, 1) := by decide +kernel
theorem d_Tx_countDeadAndStranded_90 : decode prog_11_method_13_code 90 = .ok (.putfield 156, 3) := by decide +kernel
theorem d_Tx_countDeadAndStranded_93 : decode prog_11_method_13_code 93 = .ok (.iinc 1 1, 3) := by decide +kernel
theorem d_Tx_countDeadAndStranded_96 : decode prog_11_method_13_code 96 = .ok (.goto (-84), 3) := by decide +kernel
theorem d_Tx_countDeadAndStranded_99 : decode prog_11_method_13_code 99 = .ok (.return_, 1) := by decide +kernel
/-- the words of those that have to do with patch p -/
def kinW (lo lb : Nat → Int64) (p i : Nat) : Int64 := if i = p / 64 then (lo (p * 8 + i) ||| lb (p * 8 + i)) ||| bit1 p else lo (p * 8 + i) ||| lb (p * 8 + i)
/-- q has to do with p -/
def kinR (lo lb : Nat → Int64) (p q : Nat) : Prop := btr lo (p * 8) q = true ∨ btr lb (p * 8) q = true ∨ q = p
theorem kinW_bit {lo lb : Nat → Int64} {p i b : Nat} (hb : b < 64) : (kinW lo lb p i).toBitVec.getLsbD b = true ↔ kinR lo lb p (64 * i + b) := by
  have e1 : (64 * i + b) / 64 = i := by omega
  have e2 : (64 * i + b) % 64 = b := by omega
  unfold kinW kinR btr
  rw [e1, e2]
  by_cases e : i = p / 64
  · rw [if_pos e]
    unfold bit1
    rw [bt_or _ _ (Nat.mod_lt _ (by decide)), Int64.toBitVec_or, BitVec.getLsbD_or, Bool.or_eq_true, Bool.or_eq_true, decide_eq_true_iff, or_assoc]
    have : b = p % 64 ↔ 64 * i + b = p := by omega
    rw [this]
  · rw [if_neg e, Int64.toBitVec_or, BitVec.getLsbD_or, Bool.or_eq_true]
    have : ¬ 64 * i + b = p := by omega
    constructor
    · rintro (z | z)
      · exact Or.inl z
      · exact Or.inr (Or.inl z)
    · rintro (z | z | z)
      · exact Or.inl z
      · exact Or.inr z
      · exact absurd z this
/-- one that has nothing to do with p is in the row sa -/
def lsR (de lo lb : Nat → Int64) (sa p : Nat) : Prop := ∃ q, q < 512 ∧ btr de (sa * 8) q = true ∧ ¬ kinR lo lb p q
theorem lsR_no {de lo lb : Nat → Int64} {sa p : Nat} (h : ∀ i, i < 8 → ∀ b, b < 64 → (de (sa * 8 + i)).toBitVec.getLsbD b = true → (kinW lo lb p i).toBitVec.getLsbD b = true) : ¬ lsR de lo lb sa p := by
  rintro ⟨q, h1, h2, h3⟩
  have := (kinW_bit (Nat.mod_lt _ (by decide))).mp (h (q / 64) (by omega) (q % 64) (Nat.mod_lt _ (by decide)) h2)
  rw [show 64 * (q / 64) + q % 64 = q by omega] at this
  exact h3 this
theorem lsR_yes {de lo lb : Nat → Int64} {sa p i : Nat} (hi : i < 8) (h : ¬ ∀ b, b < 64 → (de (sa * 8 + i)).toBitVec.getLsbD b = true → (kinW lo lb p i).toBitVec.getLsbD b = true) : lsR de lo lb sa p := by
  refine Classical.byContradiction (fun hn => h (fun b hb z => ?_))
  rw [kinW_bit hb]
  refine Classical.byContradiction (fun w => hn ⟨64 * i + b, by omega, ?_, w⟩)
  unfold btr
  rw [show (64 * i + b) / 64 = i by omega, show (64 * i + b) % 64 = b by omega]
  exact z
/-- the neighbour nv of a line of patch p is lost -/
def lostL (S : Stk) (D : Nat → Nat → Prop) (p : Nat) (nv : Int32) : Prop := ∃ v q, nv = nI v ∧ v < 4000 ∧ q < 512 ∧ D v q ∧ ¬ kinR S.lo S.lb p q
theorem lostL_no {S : Stk} {D : Nat → Nat → Prop} {p : Nat} : ¬ lostL S D p (-1) := by
  rintro ⟨v, q, h1, h2, _⟩
  exact nI_no1 (by omega) h1
theorem lostL_iff {S : Stk} {D : Nat → Nat → Prop} {de : Nat → Int64} {L : List Nat} {p v sa : Nat} (hd : dR de L D) (ha : sa < L.length) (he : L.getD sa 0 = v) (hv : v < 4000) : lostL S D p (nI v) ↔ lsR de S.lo S.lb sa p := by
  constructor
  · rintro ⟨w, q, h1, h2, h3, h4, h5⟩
    have e := (nI_eq (by omega) (by omega)).mp h1
    subst e
    exact ⟨q, h3, (hd sa q ha h3).mpr (by rw [he]; exact h4), h5⟩
  · rintro ⟨q, h1, h2, h3⟩
    exact ⟨v, q, rfl, hv, h1, by rw [← he]; exact (hd sa q ha h1).mp h2, h3⟩
/-- the slot's line is dead -/
noncomputable def dB (L : List Nat) (G : Nat → Prop) (a : Nat) : Bool := @decide (G (L.getD a 0)) (Classical.propDecidable _)
theorem dB_iff {L : List Nat} {G : Nat → Prop} {a : Nat} : dB L G a = true ↔ G (L.getD a 0) := by
  unfold dB
  exact @decide_eq_true_iff _ (Classical.propDecidable _)
/-- the slot's line is stranded -/
noncomputable def sB (S : Stk) (L : List Nat) (G : Nat → Prop) (D : Nat → Nat → Prop) (PT : Nat → Nat) (a : Nat) : Bool := @decide (¬ G (L.getD a 0) ∧ (lostL S D (PT (L.getD a 0)) (S.lu (L.getD a 0)) ∨ lostL S D (PT (L.getD a 0)) (S.ld (L.getD a 0)))) (Classical.propDecidable _)
theorem sB_iff {S : Stk} {L : List Nat} {G : Nat → Prop} {D : Nat → Nat → Prop} {PT : Nat → Nat} {a : Nat} : sB S L G D PT a = true ↔ (¬ G (L.getD a 0) ∧ (lostL S D (PT (L.getD a 0)) (S.lu (L.getD a 0)) ∨ lostL S D (PT (L.getD a 0)) (S.ld (L.getD a 0)))) := by
  unfold sB
  exact @decide_eq_true_iff _ (Classical.propDecidable _)
theorem cnt_yes {b : Nat → Bool} {i : Nat} (h : b i = true) : cnt b i + 1 = cnt b (i + 1) := by
  show _ = cnt b i + (if b i then 1 else 0)
  rw [if_pos h]
theorem cnt_no {b : Nat → Bool} {i : Nat} (h : ¬ b i = true) : cnt b i = cnt b (i + 1) := by
  show _ = cnt b i + (if b i then 1 else 0)
  rw [if_neg h]; rfl
set_option maxHeartbeats 4000000 in
set_option maxRecDepth 100000 in
/-- whether a neighbour is lost -/
theorem m_Tx_isLost (l : Launch) (dC : Nat → ClassId) (dI : Nat → Nat → Nat) (cI cB cL cZ cR : ClassId) (h ch ln sk cpA lcA tsA loA lbA deA : Nat) (tx_order tx_length tx_size tx_unsure tx_stranded tx_dead tx_loaded tx_version tx_loadedFile tx_rows tx_total tx_reach tx_gone tx_waits ch_at ch_file ch_firstLine ch_adds ch_files ln_at ln_length ln_place ln_up ln_down ln_ofFile ln_total sk_bytes sk_from sk_firstDependency sk_firstChange sk_dependencies sk_hashes sk_byHash sk_changes sk_lines sk_patches : Value) (Z : StkA) (S : Stk) (sl : Nat → Int32) (de : Nat → Int64) (x1 c9 p9 : Nat) (nv : Int32) (sz : Nat) (hx1 : x1 < 4000) (hc9 : S.lc x1 = nI c9) (hc38 : c9 < 38000) (hp9 : Z.cp c9 = nI p9) (hp5 : p9 < 500) (hnv : nv = -1 ∨ ∃ u9 sa, nv = nI u9 ∧ u9 < 4000 ∧ sl u9 = nI sa ∧ sa < 400) : Met l y_Tx_isLost ws_Tx_isLost ({ frames := 0, cells := 0, slots := 0, locals := 0 }) (xw_Pc dC dI [(cI, .int), (cB, .byte), (cL, .long), (cZ, .boolean), (cR, .object "PatchStore$Repository")] [.ref h, .int (nI x1), .int nv] [(h, .inr (10, [tx_order, tx_length, tx_size, tx_unsure, tx_stranded, tx_dead, .ref sk, .ref ch, .ref ln, tx_loaded, tx_version, tx_loadedFile, tx_rows, .ref tsA, tx_total, tx_reach, .ref deA, tx_gone, tx_waits])), (ch, .inr (1, [ch_at, .ref cpA, ch_file, ch_firstLine, ch_adds, ch_files])), (ln, .inr (4, [ln_at, ln_length, .ref lcA, ln_place, ln_up, ln_down, ln_ofFile, ln_total])), (sk, .inr (9, [sk_bytes, sk_from, sk_firstDependency, sk_firstChange, sk_dependencies, sk_hashes, sk_byHash, .ref loA, .ref lbA, sk_changes, sk_lines, sk_patches])), (cpA, .inl (cI, 38000, .inl Z.cp)), (lcA, .inl (cI, 4000, .inl S.lc)), (tsA, .inl (cI, 4000, .inl sl)), (loA, .inl (cL, 4000, .inr (.inl S.lo))), (lbA, .inl (cL, 4000, .inr (.inl S.lb))), (deA, .inl (cL, 3200, .inr (.inl de)))] sz) (va_Qi (fun (r : Int32) (_ : Unit) => (nv = -1 ∧ r = 0) ∨ ∃ u9 sa, nv = nI u9 ∧ u9 < 4000 ∧ sl u9 = nI sa ∧ sa < 400 ∧ ((r = 1 ∧ lsR de S.lo S.lb sa p9) ∨ (r = 0 ∧ ¬ lsR de S.lo S.lb sa p9))) (fun _ t => xw_B dC dI [(cI, .int), (cB, .byte), (cL, .long), (cZ, .boolean), (cR, .object "PatchStore$Repository")] (va_A [(h, .inr (10, [tx_order, tx_length, tx_size, tx_unsure, tx_stranded, tx_dead, .ref sk, .ref ch, .ref ln, tx_loaded, tx_version, tx_loadedFile, tx_rows, .ref tsA, tx_total, tx_reach, .ref deA, tx_gone, tx_waits])), (ch, .inr (1, [ch_at, .ref cpA, ch_file, ch_firstLine, ch_adds, ch_files])), (ln, .inr (4, [ln_at, ln_length, .ref lcA, ln_place, ln_up, ln_down, ln_ofFile, ln_total])), (sk, .inr (9, [sk_bytes, sk_from, sk_firstDependency, sk_firstChange, sk_dependencies, sk_hashes, sk_byHash, .ref loA, .ref lbA, sk_changes, sk_lines, sk_patches])), (cpA, .inl (cI, 38000, .inl Z.cp)), (lcA, .inl (cI, 4000, .inl S.lc)), (tsA, .inl (cI, 4000, .inl sl)), (loA, .inl (cL, 4000, .inr (.inl S.lo))), (lbA, .inl (cL, 4000, .inr (.inl S.lb))), (deA, .inl (cL, 3200, .inr (.inl de)))] sz) [(h, .inr (10, [tx_order, tx_length, tx_size, tx_unsure, tx_stranded, tx_dead, .ref sk, .ref ch, .ref ln, tx_loaded, tx_version, tx_loadedFile, tx_rows, .ref tsA, tx_total, tx_reach, .ref deA, tx_gone, tx_waits])), (ch, .inr (1, [ch_at, .ref cpA, ch_file, ch_firstLine, ch_adds, ch_files])), (ln, .inr (4, [ln_at, ln_length, .ref lcA, ln_place, ln_up, ln_down, ln_ofFile, ln_total])), (sk, .inr (9, [sk_bytes, sk_from, sk_firstDependency, sk_firstChange, sk_dependencies, sk_hashes, sk_byHash, .ref loA, .ref lbA, sk_changes, sk_lines, sk_patches])), (cpA, .inl (cI, 38000, .inl Z.cp)), (lcA, .inl (cI, 4000, .inl S.lc)), (tsA, .inl (cI, 4000, .inl sl)), (loA, .inl (cL, 4000, .inr (.inl S.lo))), (lbA, .inl (cL, 4000, .inr (.inl S.lb))), (deA, .inl (cL, 3200, .inr (.inl de)))] t) (va_A [(h, .inr (10, [tx_order, tx_length, tx_size, tx_unsure, tx_stranded, tx_dead, .ref sk, .ref ch, .ref ln, tx_loaded, tx_version, tx_loadedFile, tx_rows, .ref tsA, tx_total, tx_reach, .ref deA, tx_gone, tx_waits])), (ch, .inr (1, [ch_at, .ref cpA, ch_file, ch_firstLine, ch_adds, ch_files])), (ln, .inr (4, [ln_at, ln_length, .ref lcA, ln_place, ln_up, ln_down, ln_ofFile, ln_total])), (sk, .inr (9, [sk_bytes, sk_from, sk_firstDependency, sk_firstChange, sk_dependencies, sk_hashes, sk_byHash, .ref loA, .ref lbA, sk_changes, sk_lines, sk_patches])), (cpA, .inl (cI, 38000, .inl Z.cp)), (lcA, .inl (cI, 4000, .inl S.lc)), (tsA, .inl (cI, 4000, .inl sl)), (loA, .inl (cL, 4000, .inr (.inl S.lo))), (lbA, .inl (cL, 4000, .inr (.inl S.lb))), (deA, .inl (cL, 3200, .inr (.inl de)))] sz)) 0 0 (va_A [(h, .inr (10, [tx_order, tx_length, tx_size, tx_unsure, tx_stranded, tx_dead, .ref sk, .ref ch, .ref ln, tx_loaded, tx_version, tx_loadedFile, tx_rows, .ref tsA, tx_total, tx_reach, .ref deA, tx_gone, tx_waits])), (ch, .inr (1, [ch_at, .ref cpA, ch_file, ch_firstLine, ch_adds, ch_files])), (ln, .inr (4, [ln_at, ln_length, .ref lcA, ln_place, ln_up, ln_down, ln_ofFile, ln_total])), (sk, .inr (9, [sk_bytes, sk_from, sk_firstDependency, sk_firstChange, sk_dependencies, sk_hashes, sk_byHash, .ref loA, .ref lbA, sk_changes, sk_lines, sk_patches])), (cpA, .inl (cI, 38000, .inl Z.cp)), (lcA, .inl (cI, 4000, .inl S.lc)), (tsA, .inl (cI, 4000, .inl sl)), (loA, .inl (cL, 4000, .inr (.inl S.lo))), (lbA, .inl (cL, 4000, .inr (.inl S.lb))), (deA, .inl (cL, 3200, .inr (.inl de)))] sz) := by
  refine Met.ofW (cc := prog_11_method_14_code) (maxL := 9) (ret := (Option.some Jvm.ClassFile.FieldType.boolean)) (by decide) rfl ?_
  intro p e s m args below meth c s₁ B hml hv
  obtain ⟨rfl, hsz, hP, hK, hD0⟩ := hv
  have hx := B.exec
  have hb := B.bytes
  have hr := B.returns
  have hts0 := atoms_spec (ws := ws_Tx_isLost) B.pre
  have hts : ∀ w ∈ xg_1, w.before _ s = true := fun w h => hts0 w (List.mem_cons_of_mem _ h)
  have hown : s.vm.findClass "PatchStore$Text" = some m.cls := findClass_of_methodNamed B.named
  have hlocks := B.notSynchronized
  subst hsz
  have hD := hD0.self (sz := s.heap.size)
  generalize hAe : va_A [(h, .inr (10, [tx_order, tx_length, tx_size, tx_unsure, tx_stranded, tx_dead, .ref sk, .ref ch, .ref ln, tx_loaded, tx_version, tx_loadedFile, tx_rows, .ref tsA, tx_total, tx_reach, .ref deA, tx_gone, tx_waits])), (ch, .inr (1, [ch_at, .ref cpA, ch_file, ch_firstLine, ch_adds, ch_files])), (ln, .inr (4, [ln_at, ln_length, .ref lcA, ln_place, ln_up, ln_down, ln_ofFile, ln_total])), (sk, .inr (9, [sk_bytes, sk_from, sk_firstDependency, sk_firstChange, sk_dependencies, sk_hashes, sk_byHash, .ref loA, .ref lbA, sk_changes, sk_lines, sk_patches])), (cpA, .inl (cI, 38000, .inl Z.cp)), (lcA, .inl (cI, 4000, .inl S.lc)), (tsA, .inl (cI, 4000, .inl sl)), (loA, .inl (cL, 4000, .inr (.inl S.lo))), (lbA, .inl (cL, 4000, .inr (.inl S.lb))), (deA, .inl (cL, 3200, .inr (.inl de)))] s.heap.size = A at hD ⊢
  have hA : ∀ q : Nat, s.heap.size ≤ q → A q := fun q h => by rw [← hAe]; exact Or.inr h
  have hS : va_S A s.heap s.heap [] := va_S.rf
  have hl := lv_entry ([.ref h, .int (nI x1), .int nv]) (n := 9) (Nat.le_of_ble_eq_true rfl)
  rw [lg_entry_eq]
  generalize (lg_sl ([.ref h, .int (nI x1), .int nv]) ++ List.replicate (9 - (lg_sl ([.ref h, .int (nI x1), .int nv])).length) Slot.unset).toArray = ls at hl ⊢
  have hl : lv_has ls 9 [(0, .ref h), (1, .int (nI x1)), (2, .int nv)] := hl
  generalize hQe : MQ _ _ _ _ _ _ _ = Q
  rcases hnv with hnv | ⟨u9, sa, hnv, hu4, hsa, ha4⟩
  · rw [hnv] at hl
    refine lv_iload_n hx hb d_Tx_isLost_0 rfl (lv_at hl 2 rfl) ?_
    refine lv_iconst (v := (-1)) hx hb d_Tx_isLost_1 (by decide) ?_
    refine lv_icmp_ne (tgt := 7) hx hb d_Tx_isLost_2 (by decide) (fun c_2 => absurd c_2 (by decide)) (fun _ => ?_)
    refine lv_iconst (v := 0) hx hb d_Tx_isLost_5 (by decide) ?_
    rw [← hQe]
    exact W.zret (v := 0) hx hb hr nz_b0 (fun t ht hW => ⟨⟨_, (), rfl, Or.inl ⟨hnv, rfl⟩, by rw [ht]; exact hP, va_K.moved hW.alike hK, hD⟩, hS.F ht⟩) hS.2.2 d_Tx_isLost_6
  · rw [hnv] at hl
    refine lv_iload_n hx hb d_Tx_isLost_0 rfl (lv_at hl 2 rfl) ?_
    refine lv_iconst (v := (-1)) hx hb d_Tx_isLost_1 (by decide) ?_
    refine lv_icmp_ne (tgt := 7) hx hb d_Tx_isLost_2 (by decide) (fun _ => ?_) (fun c_2 => absurd c_2 (fun z => nI_nm1 (by omega) z.symm))
    refine lv_aload_n hx hb d_Tx_isLost_7 rfl (lv_at hl 0 rfl) ?_
    refine va_get (D := (dC, dI)) (ci := 10) (v := .ref ch) (C := R_Tx) (T := F_Tx) (N := 19) hx hb hts i_Tx hown hK hP 0 rfl rfl 7 (by decide) (hts _ gw_389) (fun _ h9 => h9) rfl d_Tx_isLost_8 ?_
    refine va_get (D := (dC, dI)) (ci := 1) (v := .ref cpA) (C := R_Ch) (T := F_Ch) (N := 6) hx hb hts i_Ch hown hK hP 1 rfl rfl 1 (by decide) (hts _ gw_96) (fun _ h9 => h9) rfl d_Tx_isLost_11 ?_
    refine lv_aload_n hx hb d_Tx_isLost_14 rfl (lv_at hl 0 rfl) ?_
    refine va_get (D := (dC, dI)) (ci := 10) (v := .ref ln) (C := R_Tx) (T := F_Tx) (N := 19) hx hb hts i_Tx hown hK hP 0 rfl rfl 8 (by decide) (hts _ gw_390) (fun _ h9 => h9) rfl d_Tx_isLost_15 ?_
    refine va_get (D := (dC, dI)) (ci := 4) (v := .ref lcA) (C := R_Li) (T := F_Li) (N := 8) hx hb hts i_Li hown hK hP 2 rfl rfl 2 (by decide) (hts _ gw_147) (fun _ h9 => h9) rfl d_Tx_isLost_18 ?_
    refine lv_iload_n hx hb d_Tx_isLost_21 rfl (lv_at hl 1 rfl) ?_
    refine va_iald hx hb hK hP 5 0 rfl rfl (vp_in_nI (by omega) (by omega)) d_Tx_isLost_22 ?_
    rw [show (nI x1).toNatClampNeg = x1 from nI_clamp (by omega)]
    refine lv_topi (fun x_1 ex_1 => ?_)
    obtain rfl : x_1 = nI c9 := by rw [ex_1]; first | done | (exact hc9)
    refine va_iald hx hb hK hP 4 0 rfl rfl (vp_in_nI (by omega) (by omega)) d_Tx_isLost_23 ?_
    rw [show (nI c9).toNatClampNeg = c9 from nI_clamp (by omega)]
    refine lv_topi (fun x_2 ex_2 => ?_)
    obtain rfl : x_2 = nI p9 := by rw [ex_2]; first | done | (exact hp9)
    refine lv_istore_n (lv' := [(3, .int (nI p9)), (0, .ref h), (1, .int (nI x1)), (2, .int (nI u9))]) hx hb d_Tx_isLost_24 rfl hl (by decide) rfl (fun ls hl => ?_)
    refine lv_iload_n hx hb d_Tx_isLost_25 rfl (lv_at hl 0 rfl) ?_
    refine lv_bipush (v := 8) hx hb d_Tx_isLost_26 (by decide) ?_
    refine lv_imul hx hb d_Tx_isLost_28 ?_
    refine lv_topi (fun x_3 ex_3 => ?_)
    obtain rfl : x_3 = nI (p9 * 8) := by rw [ex_3]; first | done | (exact nI_mul _ _)
    refine lv_istore (lv' := [(4, .int (nI (p9 * 8))), (3, .int (nI p9)), (0, .ref h), (1, .int (nI x1)), (2, .int (nI u9))]) hx hb d_Tx_isLost_29 hl (by decide) rfl (fun ls hl => ?_)
    refine lv_aload_n hx hb d_Tx_isLost_31 rfl (lv_at hl 2 rfl) ?_
    refine va_get (D := (dC, dI)) (ci := 10) (v := .ref tsA) (C := R_Tx) (T := F_Tx) (N := 19) hx hb hts i_Tx hown hK hP 0 rfl rfl 13 (by decide) (hts _ gw_395) (fun _ h9 => h9) rfl d_Tx_isLost_32 ?_
    refine lv_iload_n hx hb d_Tx_isLost_35 rfl (lv_at hl 4 rfl) ?_
    refine va_iald hx hb hK hP 6 0 rfl rfl (vp_in_nI (by omega) (by omega)) d_Tx_isLost_36 ?_
    rw [show (nI u9).toNatClampNeg = u9 from nI_clamp (by omega)]
    refine lv_topi (fun x_4 ex_4 => ?_)
    obtain rfl : x_4 = nI sa := by rw [ex_4]; first | done | (exact hsa)
    refine lv_bipush (v := 8) hx hb d_Tx_isLost_37 (by decide) ?_
    refine lv_imul hx hb d_Tx_isLost_39 ?_
    refine lv_topi (fun x_5 ex_5 => ?_)
    obtain rfl : x_5 = nI (sa * 8) := by rw [ex_5]; first | done | (exact nI_mul _ _)
    refine lv_istore (lv' := [(5, .int (nI (sa * 8))), (4, .int (nI (p9 * 8))), (3, .int (nI p9)), (0, .ref h), (1, .int (nI x1)), (2, .int (nI u9))]) hx hb d_Tx_isLost_40 hl (by decide) rfl (fun ls hl => ?_)
    refine lv_iconst (v := 0) hx hb d_Tx_isLost_42 (by decide) ?_
    refine lv_istore (lv' := [(6, .int 0), (5, .int (nI (sa * 8))), (4, .int (nI (p9 * 8))), (3, .int (nI p9)), (0, .ref h), (1, .int (nI x1)), (2, .int (nI u9))]) hx hb d_Tx_isLost_43 hl (by decide) rfl (fun ls hl => ?_)
    have loop_45 : ∀ (n9 : Nat) (wd : Nat) (H : Heap) (locs : List Loc) (ls : Array Slot), 8 - wd < n9 → (wd ≤ 8) → (∀ i, i < wd → ∀ b, b < 64 → (de (sa * 8 + i)).toBitVec.getLsbD b = true → (kinW S.lo S.lb p9 i).toBitVec.getLsbD b = true) → va_P (dC, dI) classes [(h, .inr (10, [tx_order, tx_length, tx_size, tx_unsure, tx_stranded, tx_dead, .ref sk, .ref ch, .ref ln, tx_loaded, tx_version, tx_loadedFile, tx_rows, .ref tsA, tx_total, tx_reach, .ref deA, tx_gone, tx_waits])), (ch, .inr (1, [ch_at, .ref cpA, ch_file, ch_firstLine, ch_adds, ch_files])), (ln, .inr (4, [ln_at, ln_length, .ref lcA, ln_place, ln_up, ln_down, ln_ofFile, ln_total])), (sk, .inr (9, [sk_bytes, sk_from, sk_firstDependency, sk_firstChange, sk_dependencies, sk_hashes, sk_byHash, .ref loA, .ref lbA, sk_changes, sk_lines, sk_patches])), (cpA, .inl (cI, 38000, .inl Z.cp)), (lcA, .inl (cI, 4000, .inl S.lc)), (tsA, .inl (cI, 4000, .inl sl)), (loA, .inl (cL, 4000, .inr (.inl S.lo))), (lbA, .inl (cL, 4000, .inr (.inl S.lb))), (deA, .inl (cL, 3200, .inr (.inl de)))] H → va_D A [(h, .inr (10, [tx_order, tx_length, tx_size, tx_unsure, tx_stranded, tx_dead, .ref sk, .ref ch, .ref ln, tx_loaded, tx_version, tx_loadedFile, tx_rows, .ref tsA, tx_total, tx_reach, .ref deA, tx_gone, tx_waits])), (ch, .inr (1, [ch_at, .ref cpA, ch_file, ch_firstLine, ch_adds, ch_files])), (ln, .inr (4, [ln_at, ln_length, .ref lcA, ln_place, ln_up, ln_down, ln_ofFile, ln_total])), (sk, .inr (9, [sk_bytes, sk_from, sk_firstDependency, sk_firstChange, sk_dependencies, sk_hashes, sk_byHash, .ref loA, .ref lbA, sk_changes, sk_lines, sk_patches])), (cpA, .inl (cI, 38000, .inl Z.cp)), (lcA, .inl (cI, 4000, .inl S.lc)), (tsA, .inl (cI, 4000, .inl sl)), (loA, .inl (cL, 4000, .inr (.inl S.lo))), (lbA, .inl (cL, 4000, .inr (.inl S.lb))), (deA, .inl (cL, 3200, .inr (.inl de)))] → va_S A s.heap H locs → lv_has ls 9 [(0, .ref h), (3, .int (nI p9)), (4, .int (nI (p9 * 8))), (5, .int (nI (sa * 8))), (6, .int (nI wd))] → W p l e (headSpec ws_Tx_isLost ({ frames := 0, cells := 0, slots := 0, locals := 0 })).room s m ([.ref h, .int (nI x1), .int nv] : List Value).toArray below meth c H locs 0 0 Q (F0 m 45 ls []) := by
      intro n9
      induction n9 with
      | zero => intro wd H locs ls hm; exact absurd hm (Nat.not_lt_zero _)
      | succ n9 ih_45 =>
        intro wd H locs ls hm hwd hq hP hD hS hl
        refine lv_iload hx hb d_Tx_isLost_45 (lv_at hl 4 rfl) ?_
        refine lv_bipush (v := 8) hx hb d_Tx_isLost_47 (by decide) ?_
        refine lv_icmp_ge (tgt := 131) hx hb d_Tx_isLost_49 (by decide) (fun c_49 => ?_) (fun c_49 => ?_)
        · have n_49 : 8 ≤ wd := (nI_leI (a := 8) (b := wd) (by omega) (by omega)).mp c_49
          refine lv_iconst (v := 0) hx hb d_Tx_isLost_131 (by decide) ?_
          rw [← hQe]
          exact W.zret (v := 0) hx hb hr nz_b0 (fun t ht hW => ⟨⟨_, (), rfl, Or.inr ⟨u9, sa, hnv, hu4, hsa, ha4, Or.inr ⟨rfl, lsR_no (fun i z => hq i (by omega))⟩⟩, by rw [ht]; exact hP, va_K.moved hW.alike hK, hD⟩, hS.F ht⟩) hS.2.2 d_Tx_isLost_132
        · have n_49 : wd < 8 := Nat.lt_of_not_le (fun z => c_49 ((nI_leI (a := 8) (b := wd) (by omega) (by omega)).mpr z))
          refine lv_aload_n hx hb d_Tx_isLost_52 rfl (lv_at hl 0 rfl) ?_
          refine va_get (D := (dC, dI)) (ci := 10) (v := .ref sk) (C := R_Tx) (T := F_Tx) (N := 19) hx hb hts i_Tx hown hK hP 0 rfl rfl 6 (by decide) (hts _ gw_388) (fun _ h9 => h9) rfl d_Tx_isLost_53 ?_
          refine va_get (D := (dC, dI)) (ci := 9) (v := .ref loA) (C := R_St) (T := F_St) (N := 12) hx hb hts i_St hown hK hP 3 rfl rfl 7 (by decide) (hts _ gw_217) (fun _ h9 => h9) rfl d_Tx_isLost_56 ?_
          refine lv_iload hx hb d_Tx_isLost_59 (lv_at hl 2 rfl) ?_
          refine lv_iload hx hb d_Tx_isLost_61 (lv_at hl 4 rfl) ?_
          refine lv_iadd hx hb d_Tx_isLost_63 ?_
          refine lv_topi (fun x_6 ex_6 => ?_)
          obtain rfl : x_6 = nI ((p9 * 8) + wd) := by rw [ex_6]; first | done | (exact nI_add _ _)
          refine va_lald hx hb hK hP 7 2 rfl rfl (vp_in_nI (by omega) (by omega)) d_Tx_isLost_64 ?_
          rw [show (nI ((p9 * 8) + wd)).toNatClampNeg = ((p9 * 8) + wd) from nI_clamp (by omega)]
          refine lv_aload_n hx hb d_Tx_isLost_65 rfl (lv_at hl 0 rfl) ?_
          refine va_get (D := (dC, dI)) (ci := 10) (v := .ref sk) (C := R_Tx) (T := F_Tx) (N := 19) hx hb hts i_Tx hown hK hP 0 rfl rfl 6 (by decide) (hts _ gw_388) (fun _ h9 => h9) rfl d_Tx_isLost_66 ?_
          refine va_get (D := (dC, dI)) (ci := 9) (v := .ref lbA) (C := R_St) (T := F_St) (N := 12) hx hb hts i_St hown hK hP 3 rfl rfl 8 (by decide) (hts _ gw_220) (fun _ h9 => h9) rfl d_Tx_isLost_69 ?_
          refine lv_iload hx hb d_Tx_isLost_72 (lv_at hl 2 rfl) ?_
          refine lv_iload hx hb d_Tx_isLost_74 (lv_at hl 4 rfl) ?_
          refine lv_iadd hx hb d_Tx_isLost_76 ?_
          refine lv_topi (fun x_7 ex_7 => ?_)
          obtain rfl : x_7 = nI ((p9 * 8) + wd) := by rw [ex_7]; first | done | (exact nI_add _ _)
          refine va_lald hx hb hK hP 8 2 rfl rfl (vp_in_nI (by omega) (by omega)) d_Tx_isLost_77 ?_
          rw [show (nI ((p9 * 8) + wd)).toNatClampNeg = ((p9 * 8) + wd) from nI_clamp (by omega)]
          refine lv_lor hx hb d_Tx_isLost_78 ?_
          refine lv_lstore (lv' := [(7, .long ((S.lo ((p9 * 8) + wd)) ||| (S.lb ((p9 * 8) + wd)))), (0, .ref h), (3, .int (nI p9)), (4, .int (nI (p9 * 8))), (5, .int (nI (sa * 8))), (6, .int (nI wd))]) hx hb d_Tx_isLost_79 hl (by decide) rfl (fun ls hl => ?_)
          refine lv_iload hx hb d_Tx_isLost_81 (lv_at hl 5 rfl) ?_
          refine lv_iload_n hx hb d_Tx_isLost_83 rfl (lv_at hl 2 rfl) ?_
          refine lv_bipush (v := 6) hx hb d_Tx_isLost_84 (by decide) ?_
          refine lv_ishr hx hb d_Tx_isLost_86 ?_
          refine lv_topi (fun x_8 ex_8 => ?_)
          obtain rfl : x_8 = nI (p9 / 64) := by rw [ex_8]; first | done | (exact pk_shrN (by omega) _ 6 (by decide))
          refine lv_icmp_ne (tgt := 101) hx hb d_Tx_isLost_87 (by decide) (fun c_87 => ?_) (fun c_87 => ?_)
          · have n_87 : ¬ wd = (p9 / 64) := fun z => c_87 ((nI_eq (a := wd) (b := (p9 / 64)) (by omega) (by omega)).mpr z)
            rw [show (S.lo ((p9 * 8) + wd)) ||| (S.lb ((p9 * 8) + wd)) = kinW S.lo S.lb p9 wd from (if_neg n_87).symm] at hl
            refine lv_aload_n hx hb d_Tx_isLost_101 rfl (lv_at hl 1 rfl) ?_
            refine va_get (D := (dC, dI)) (ci := 10) (v := .ref deA) (C := R_Tx) (T := F_Tx) (N := 19) hx hb hts i_Tx hown hK hP 0 rfl rfl 16 (by decide) (hts _ gw_398) (fun _ h9 => h9) rfl d_Tx_isLost_102 ?_
            refine lv_iload hx hb d_Tx_isLost_105 (lv_at hl 4 rfl) ?_
            refine lv_iload hx hb d_Tx_isLost_107 (lv_at hl 5 rfl) ?_
            refine lv_iadd hx hb d_Tx_isLost_109 ?_
            refine lv_topi (fun x_9 ex_9 => ?_)
            obtain rfl : x_9 = nI ((sa * 8) + wd) := by rw [ex_9]; first | done | (exact nI_add _ _)
            refine va_lald hx hb hK hP 9 2 rfl rfl (vp_in_nI (by omega) (by omega)) d_Tx_isLost_110 ?_
            rw [show (nI ((sa * 8) + wd)).toNatClampNeg = ((sa * 8) + wd) from nI_clamp (by omega)]
            refine lv_lload hx hb d_Tx_isLost_111 (lv_at hl 0 rfl) ?_
            refine lv_ldc2 (own := "PatchStore$Text") hx hb hown (hts _ gw_1093) d_Tx_isLost_113 ?_
            refine lv_lxor hx hb d_Tx_isLost_116 ?_
            refine lv_land hx hb d_Tx_isLost_117 ?_
            refine lv_lconst (v := 0) hx hb d_Tx_isLost_118 (by decide) ?_
            refine W.lcmp hx hb d_Tx_isLost_119 ?_
            refine lv_if_eq (tgt := 125) hx hb d_Tx_isLost_120 (by decide) (fun c_120 => ?_) (fun c_120 => ?_)
            · refine lv_iinc (v := nI (wd + 1)) (lv' := [(6, .int (nI (wd + 1))), (7, .long (kinW S.lo S.lb p9 wd)), (0, .ref h), (3, .int (nI p9)), (4, .int (nI (p9 * 8))), (5, .int (nI (sa * 8)))]) hx hb d_Tx_isLost_125 hl (k := 5) rfl (by exact nI_add _ _) (by decide) rfl (fun ls hl => ?_)
              refine lv_goto (tgt := 45) hx hb d_Tx_isLost_128 (by decide) ?_
              exact ih_45 (wd + 1) _ _ _ (by omega) (by omega) (fun i z => if e9 : i = wd then e9 ▸ (bt_sub _ _).mp c_120 else hq i (by omega)) hP hD hS (lv_sub hl [2, 3, 4, 5, 0] rfl)
            · refine lv_iconst (v := 1) hx hb d_Tx_isLost_123 (by decide) ?_
              rw [← hQe]
              exact W.zret (v := 1) hx hb hr nz_b1 (fun t ht hW => ⟨⟨_, (), rfl, Or.inr ⟨u9, sa, hnv, hu4, hsa, ha4, Or.inl ⟨rfl, lsR_yes n_49 (fun z => c_120 ((bt_sub _ _).mpr z))⟩⟩, by rw [ht]; exact hP, va_K.moved hW.alike hK, hD⟩, hS.F ht⟩) hS.2.2 d_Tx_isLost_124
          · have n_87 : wd = (p9 / 64) := (nI_eq (a := wd) (b := (p9 / 64)) (by omega) (by omega)).mp c_87
            refine lv_lload hx hb d_Tx_isLost_90 (lv_at hl 0 rfl) ?_
            refine lv_lconst (v := 1) hx hb d_Tx_isLost_92 (by decide) ?_
            refine lv_iload_n hx hb d_Tx_isLost_93 rfl (lv_at hl 2 rfl) ?_
            refine lv_bipush (v := 63) hx hb d_Tx_isLost_94 (by decide) ?_
            refine lv_iand hx hb d_Tx_isLost_96 ?_
            refine lv_topi (fun x_10 ex_10 => ?_)
            obtain rfl : x_10 = nI (p9 % 64) := by rw [ex_10]; first | done | (exact pk_andN (by omega) 6 (by decide))
            refine lv_lshl hx hb d_Tx_isLost_97 rfl ?_
            refine lv_lor hx hb d_Tx_isLost_98 ?_
            refine lv_lstore (lv' := [(7, .long (((S.lo ((p9 * 8) + wd)) ||| (S.lb ((p9 * 8) + wd))) ||| (1 <<< ((nI (p9 % 64) : Int32).toInt64 &&& 63)))), (0, .ref h), (3, .int (nI p9)), (4, .int (nI (p9 * 8))), (5, .int (nI (sa * 8))), (6, .int (nI wd))]) hx hb d_Tx_isLost_99 hl (by decide) rfl (fun ls hl => ?_)
            rw [show ((S.lo ((p9 * 8) + wd)) ||| (S.lb ((p9 * 8) + wd))) ||| (1 <<< ((nI (p9 % 64) : Int32).toInt64 &&& 63)) = kinW S.lo S.lb p9 wd from (if_pos n_87).symm] at hl
            refine lv_aload_n hx hb d_Tx_isLost_101 rfl (lv_at hl 1 rfl) ?_
            refine va_get (D := (dC, dI)) (ci := 10) (v := .ref deA) (C := R_Tx) (T := F_Tx) (N := 19) hx hb hts i_Tx hown hK hP 0 rfl rfl 16 (by decide) (hts _ gw_398) (fun _ h9 => h9) rfl d_Tx_isLost_102 ?_
            refine lv_iload hx hb d_Tx_isLost_105 (lv_at hl 4 rfl) ?_
            refine lv_iload hx hb d_Tx_isLost_107 (lv_at hl 5 rfl) ?_
            refine lv_iadd hx hb d_Tx_isLost_109 ?_
            refine lv_topi (fun x_11 ex_11 => ?_)
            obtain rfl : x_11 = nI ((sa * 8) + wd) := by rw [ex_11]; first | done | (exact nI_add _ _)
            refine va_lald hx hb hK hP 9 2 rfl rfl (vp_in_nI (by omega) (by omega)) d_Tx_isLost_110 ?_
            rw [show (nI ((sa * 8) + wd)).toNatClampNeg = ((sa * 8) + wd) from nI_clamp (by omega)]
            refine lv_lload hx hb d_Tx_isLost_111 (lv_at hl 0 rfl) ?_
            refine lv_ldc2 (own := "PatchStore$Text") hx hb hown (hts _ gw_1093) d_Tx_isLost_113 ?_
            refine lv_lxor hx hb d_Tx_isLost_116 ?_
            refine lv_land hx hb d_Tx_isLost_117 ?_
            refine lv_lconst (v := 0) hx hb d_Tx_isLost_118 (by decide) ?_
            refine W.lcmp hx hb d_Tx_isLost_119 ?_
            refine lv_if_eq (tgt := 125) hx hb d_Tx_isLost_120 (by decide) (fun c_120 => ?_) (fun c_120 => ?_)
            · refine lv_iinc (v := nI (wd + 1)) (lv' := [(6, .int (nI (wd + 1))), (7, .long (kinW S.lo S.lb p9 wd)), (0, .ref h), (3, .int (nI p9)), (4, .int (nI (p9 * 8))), (5, .int (nI (sa * 8)))]) hx hb d_Tx_isLost_125 hl (k := 5) rfl (by exact nI_add _ _) (by decide) rfl (fun ls hl => ?_)
              refine lv_goto (tgt := 45) hx hb d_Tx_isLost_128 (by decide) ?_
              exact ih_45 (wd + 1) _ _ _ (by omega) (by omega) (fun i z => if e9 : i = wd then e9 ▸ (bt_sub _ _).mp c_120 else hq i (by omega)) hP hD hS (lv_sub hl [2, 3, 4, 5, 0] rfl)
            · refine lv_iconst (v := 1) hx hb d_Tx_isLost_123 (by decide) ?_
              rw [← hQe]
              exact W.zret (v := 1) hx hb hr nz_b1 (fun t ht hW => ⟨⟨_, (), rfl, Or.inr ⟨u9, sa, hnv, hu4, hsa, ha4, Or.inl ⟨rfl, lsR_yes n_49 (fun z => c_120 ((bt_sub _ _).mpr z))⟩⟩, by rw [ht]; exact hP, va_K.moved hW.alike hK, hD⟩, hS.F ht⟩) hS.2.2 d_Tx_isLost_124
    exact loop_45 _ 0 _ _ _ (Nat.lt_succ_self _) (Nat.zero_le _) (fun i z => absurd z (Nat.not_lt_zero _)) hP hD hS (lv_sub hl [4, 3, 2, 1, 0] rfl)
set_option maxHeartbeats 4000000 in
set_option maxRecDepth 100000 in
/-- the dead and stranded lines -/
theorem m_Tx_countDead (l : Launch) (dC : Nat → ClassId) (dI : Nat → Nat → Nat) (cI cB cL cZ cR : ClassId) (h ch ln sk cpA lcA tsA loA lbA deA luA ldA trA goA : Nat) (tx_order tx_length tx_size tx_unsure tx_stranded tx_dead tx_loaded tx_version tx_loadedFile tx_reach tx_waits ch_at ch_file ch_firstLine ch_adds ch_files ln_at ln_length ln_place ln_ofFile ln_total sk_bytes sk_from sk_firstDependency sk_firstChange sk_dependencies sk_hashes sk_byHash sk_changes sk_lines sk_patches : Value) (Z : StkA) (S : Stk) (sl rw9 go : Nat → Int32) (de : Nat → Int64) (L : List Nat) (GG : Nat → Prop) (DD : Nat → Nat → Prop) (PT : Nat → Nat) (sz : Nat) (hrw : arrL rw9 L) (hsl : slR sl L) (hL4 : L.length ≤ 400) (hL5 : ∀ x, x ∈ L → x < 4000) (hgR : gR go L GG) (hdR : dR de L DD) (hpt : ∀ x, x ∈ L → ∃ c8, S.lc x = nI c8 ∧ c8 < 38000 ∧ Z.cp c8 = nI (PT x) ∧ PT x < 500) (hgr : grOK S L) : Met l y_Tx_countDeadAndStranded ws_Tx_countDeadAndStranded ({ frames := 1, cells := 0, slots := 0, locals := 80 }) (xw_Pc dC dI [(cI, .int), (cB, .byte), (cL, .long), (cZ, .boolean), (cR, .object "PatchStore$Repository")] [.ref h] [(h, .inr (10, [tx_order, tx_length, tx_size, tx_unsure, tx_stranded, tx_dead, .ref sk, .ref ch, .ref ln, tx_loaded, tx_version, tx_loadedFile, .ref trA, .ref tsA, .int (nI L.length), tx_reach, .ref deA, .ref goA, tx_waits])), (ch, .inr (1, [ch_at, .ref cpA, ch_file, ch_firstLine, ch_adds, ch_files])), (ln, .inr (4, [ln_at, ln_length, .ref lcA, ln_place, .ref luA, .ref ldA, ln_ofFile, ln_total])), (sk, .inr (9, [sk_bytes, sk_from, sk_firstDependency, sk_firstChange, sk_dependencies, sk_hashes, sk_byHash, .ref loA, .ref lbA, sk_changes, sk_lines, sk_patches])), (cpA, .inl (cI, 38000, .inl Z.cp)), (lcA, .inl (cI, 4000, .inl S.lc)), (tsA, .inl (cI, 4000, .inl sl)), (loA, .inl (cL, 4000, .inr (.inl S.lo))), (lbA, .inl (cL, 4000, .inr (.inl S.lb))), (deA, .inl (cL, 3200, .inr (.inl de))), (luA, .inl (cI, 4000, .inl S.lu)), (ldA, .inl (cI, 4000, .inl S.ld)), (trA, .inl (cI, 400, .inl rw9)), (goA, .inl (cI, 400, .inl go))] sz) (va_Qv (fun _ : Unit => True) (fun _ t => xw_B dC dI [(cI, .int), (cB, .byte), (cL, .long), (cZ, .boolean), (cR, .object "PatchStore$Repository")] (va_A [(h, .inr (10, [tx_order, tx_length, tx_size, tx_unsure, tx_stranded, tx_dead, .ref sk, .ref ch, .ref ln, tx_loaded, tx_version, tx_loadedFile, .ref trA, .ref tsA, .int (nI L.length), tx_reach, .ref deA, .ref goA, tx_waits])), (ch, .inr (1, [ch_at, .ref cpA, ch_file, ch_firstLine, ch_adds, ch_files])), (ln, .inr (4, [ln_at, ln_length, .ref lcA, ln_place, .ref luA, .ref ldA, ln_ofFile, ln_total])), (sk, .inr (9, [sk_bytes, sk_from, sk_firstDependency, sk_firstChange, sk_dependencies, sk_hashes, sk_byHash, .ref loA, .ref lbA, sk_changes, sk_lines, sk_patches])), (cpA, .inl (cI, 38000, .inl Z.cp)), (lcA, .inl (cI, 4000, .inl S.lc)), (tsA, .inl (cI, 4000, .inl sl)), (loA, .inl (cL, 4000, .inr (.inl S.lo))), (lbA, .inl (cL, 4000, .inr (.inl S.lb))), (deA, .inl (cL, 3200, .inr (.inl de))), (luA, .inl (cI, 4000, .inl S.lu)), (ldA, .inl (cI, 4000, .inl S.ld)), (trA, .inl (cI, 400, .inl rw9)), (goA, .inl (cI, 400, .inl go))] sz) [(h, .inr (10, [tx_order, tx_length, tx_size, tx_unsure, .int (nI (cnt (sB S L GG DD PT) L.length)), .int (nI (cnt (dB L GG) L.length)), .ref sk, .ref ch, .ref ln, tx_loaded, tx_version, tx_loadedFile, .ref trA, .ref tsA, .int (nI L.length), tx_reach, .ref deA, .ref goA, tx_waits])), (ch, .inr (1, [ch_at, .ref cpA, ch_file, ch_firstLine, ch_adds, ch_files])), (ln, .inr (4, [ln_at, ln_length, .ref lcA, ln_place, .ref luA, .ref ldA, ln_ofFile, ln_total])), (sk, .inr (9, [sk_bytes, sk_from, sk_firstDependency, sk_firstChange, sk_dependencies, sk_hashes, sk_byHash, .ref loA, .ref lbA, sk_changes, sk_lines, sk_patches])), (cpA, .inl (cI, 38000, .inl Z.cp)), (lcA, .inl (cI, 4000, .inl S.lc)), (tsA, .inl (cI, 4000, .inl sl)), (loA, .inl (cL, 4000, .inr (.inl S.lo))), (lbA, .inl (cL, 4000, .inr (.inl S.lb))), (deA, .inl (cL, 3200, .inr (.inl de))), (luA, .inl (cI, 4000, .inl S.lu)), (ldA, .inl (cI, 4000, .inl S.ld)), (trA, .inl (cI, 400, .inl rw9)), (goA, .inl (cI, 400, .inl go))] t) (va_A [(h, .inr (10, [tx_order, tx_length, tx_size, tx_unsure, tx_stranded, tx_dead, .ref sk, .ref ch, .ref ln, tx_loaded, tx_version, tx_loadedFile, .ref trA, .ref tsA, .int (nI L.length), tx_reach, .ref deA, .ref goA, tx_waits])), (ch, .inr (1, [ch_at, .ref cpA, ch_file, ch_firstLine, ch_adds, ch_files])), (ln, .inr (4, [ln_at, ln_length, .ref lcA, ln_place, .ref luA, .ref ldA, ln_ofFile, ln_total])), (sk, .inr (9, [sk_bytes, sk_from, sk_firstDependency, sk_firstChange, sk_dependencies, sk_hashes, sk_byHash, .ref loA, .ref lbA, sk_changes, sk_lines, sk_patches])), (cpA, .inl (cI, 38000, .inl Z.cp)), (lcA, .inl (cI, 4000, .inl S.lc)), (tsA, .inl (cI, 4000, .inl sl)), (loA, .inl (cL, 4000, .inr (.inl S.lo))), (lbA, .inl (cL, 4000, .inr (.inl S.lb))), (deA, .inl (cL, 3200, .inr (.inl de))), (luA, .inl (cI, 4000, .inl S.lu)), (ldA, .inl (cI, 4000, .inl S.ld)), (trA, .inl (cI, 400, .inl rw9)), (goA, .inl (cI, 400, .inl go))] sz)) 0 0 (va_A [(h, .inr (10, [tx_order, tx_length, tx_size, tx_unsure, tx_stranded, tx_dead, .ref sk, .ref ch, .ref ln, tx_loaded, tx_version, tx_loadedFile, .ref trA, .ref tsA, .int (nI L.length), tx_reach, .ref deA, .ref goA, tx_waits])), (ch, .inr (1, [ch_at, .ref cpA, ch_file, ch_firstLine, ch_adds, ch_files])), (ln, .inr (4, [ln_at, ln_length, .ref lcA, ln_place, .ref luA, .ref ldA, ln_ofFile, ln_total])), (sk, .inr (9, [sk_bytes, sk_from, sk_firstDependency, sk_firstChange, sk_dependencies, sk_hashes, sk_byHash, .ref loA, .ref lbA, sk_changes, sk_lines, sk_patches])), (cpA, .inl (cI, 38000, .inl Z.cp)), (lcA, .inl (cI, 4000, .inl S.lc)), (tsA, .inl (cI, 4000, .inl sl)), (loA, .inl (cL, 4000, .inr (.inl S.lo))), (lbA, .inl (cL, 4000, .inr (.inl S.lb))), (deA, .inl (cL, 3200, .inr (.inl de))), (luA, .inl (cI, 4000, .inl S.lu)), (ldA, .inl (cI, 4000, .inl S.ld)), (trA, .inl (cI, 400, .inl rw9)), (goA, .inl (cI, 400, .inl go))] sz) := by
  refine Met.ofW (cc := prog_11_method_13_code) (maxL := 3) (ret := none) (by decide) rfl ?_
  intro p e s m args below meth c s₁ B hml hv
  obtain ⟨rfl, hsz, hP, hK, hD0⟩ := hv
  have hx := B.exec
  have hb := B.bytes
  have hr := B.returns
  have hts0 := atoms_spec (ws := ws_Tx_countDeadAndStranded) B.pre
  have hts : ∀ w ∈ xg_1, w.before _ s = true := fun w h => hts0 w (List.mem_cons_of_mem _ h)
  have hown : s.vm.findClass "PatchStore$Text" = some m.cls := findClass_of_methodNamed B.named
  have hlocks := B.notSynchronized
  subst hsz
  have hD := hD0.self (sz := s.heap.size)
  generalize hAe : va_A [(h, .inr (10, [tx_order, tx_length, tx_size, tx_unsure, tx_stranded, tx_dead, .ref sk, .ref ch, .ref ln, tx_loaded, tx_version, tx_loadedFile, .ref trA, .ref tsA, .int (nI L.length), tx_reach, .ref deA, .ref goA, tx_waits])), (ch, .inr (1, [ch_at, .ref cpA, ch_file, ch_firstLine, ch_adds, ch_files])), (ln, .inr (4, [ln_at, ln_length, .ref lcA, ln_place, .ref luA, .ref ldA, ln_ofFile, ln_total])), (sk, .inr (9, [sk_bytes, sk_from, sk_firstDependency, sk_firstChange, sk_dependencies, sk_hashes, sk_byHash, .ref loA, .ref lbA, sk_changes, sk_lines, sk_patches])), (cpA, .inl (cI, 38000, .inl Z.cp)), (lcA, .inl (cI, 4000, .inl S.lc)), (tsA, .inl (cI, 4000, .inl sl)), (loA, .inl (cL, 4000, .inr (.inl S.lo))), (lbA, .inl (cL, 4000, .inr (.inl S.lb))), (deA, .inl (cL, 3200, .inr (.inl de))), (luA, .inl (cI, 4000, .inl S.lu)), (ldA, .inl (cI, 4000, .inl S.ld)), (trA, .inl (cI, 400, .inl rw9)), (goA, .inl (cI, 400, .inl go))] s.heap.size = A at hD ⊢
  have hA : ∀ q : Nat, s.heap.size ≤ q → A q := fun q h => by rw [← hAe]; exact Or.inr h
  have hS : va_S A s.heap s.heap [] := va_S.rf
  have hl := lv_entry ([.ref h]) (n := 3) (Nat.le_of_ble_eq_true rfl)
  rw [lg_entry_eq]
  generalize (lg_sl ([.ref h]) ++ List.replicate (3 - (lg_sl ([.ref h])).length) Slot.unset).toArray = ls at hl ⊢
  have hl : lv_has ls 3 [(0, .ref h)] := hl
  generalize hQe : MQ _ _ _ _ _ _ _ = Q
  have hsx : ∀ nv, (nv = -1 ∨ ∃ q, q ∈ L ∧ nv = nI q) → ∀ v9, nv = nI v9 → v9 < 4000 → ∃ b9, b9 < L.length ∧ L.getD b9 0 = v9 := fun nv hz v9 e9 h9 => by
    rcases hz with rfl | ⟨q, hq, rfl⟩
    · exact absurd e9 (nI_no1 (by omega))
    · have := hL5 q hq
      rw [← (nI_eq (by omega) (by omega)).mp e9]; exact mem_getD hq
  have hnvx : ∀ nv, (nv = -1 ∨ ∃ q, q ∈ L ∧ nv = nI q) → (nv = -1 ∨ ∃ u9 sa, nv = nI u9 ∧ u9 < 4000 ∧ sl u9 = nI sa ∧ sa < 400) := fun nv hz => hz.imp id (fun ⟨q, hq, e9⟩ => by
    obtain ⟨b9, hb9, hc9⟩ := mem_getD hq
    exact ⟨q, b9, e9, hL5 q hq, by rw [← hc9]; exact hsl b9 hb9, by omega⟩)
  refine lv_aload_n hx hb d_Tx_countDeadAndStranded_0 rfl (lv_at hl 0 rfl) ?_
  refine lv_iconst (v := 0) hx hb d_Tx_countDeadAndStranded_1 (by decide) ?_
  refine va_put (D := (dC, dI)) (ci := 10) (v := .int 0) (ty := .int) (C := R_Tx) (T := F_Tx) (N := 19) hx hb hts i_Tx t_Tx t_Tx_ok n_Tx hown hK hP hD hS 0 rfl rfl 5 (by decide) (hts _ gw_386) (fun _ h9 => h9) rfl (by decide +kernel) rfl rfl (Nat.le_of_ble_eq_true rfl) d_Tx_countDeadAndStranded_2 (fun H locs hP hD hS => ?_)
  have hP : va_P (dC, dI) classes [(h, .inr (10, [tx_order, tx_length, tx_size, tx_unsure, tx_stranded, .int 0, .ref sk, .ref ch, .ref ln, tx_loaded, tx_version, tx_loadedFile, .ref trA, .ref tsA, .int (nI L.length), tx_reach, .ref deA, .ref goA, tx_waits])), (ch, .inr (1, [ch_at, .ref cpA, ch_file, ch_firstLine, ch_adds, ch_files])), (ln, .inr (4, [ln_at, ln_length, .ref lcA, ln_place, .ref luA, .ref ldA, ln_ofFile, ln_total])), (sk, .inr (9, [sk_bytes, sk_from, sk_firstDependency, sk_firstChange, sk_dependencies, sk_hashes, sk_byHash, .ref loA, .ref lbA, sk_changes, sk_lines, sk_patches])), (cpA, .inl (cI, 38000, .inl Z.cp)), (lcA, .inl (cI, 4000, .inl S.lc)), (tsA, .inl (cI, 4000, .inl sl)), (loA, .inl (cL, 4000, .inr (.inl S.lo))), (lbA, .inl (cL, 4000, .inr (.inl S.lb))), (deA, .inl (cL, 3200, .inr (.inl de))), (luA, .inl (cI, 4000, .inl S.lu)), (ldA, .inl (cI, 4000, .inl S.ld)), (trA, .inl (cI, 400, .inl rw9)), (goA, .inl (cI, 400, .inl go))] H := hP
  have hD : va_D A [(h, .inr (10, [tx_order, tx_length, tx_size, tx_unsure, tx_stranded, .int 0, .ref sk, .ref ch, .ref ln, tx_loaded, tx_version, tx_loadedFile, .ref trA, .ref tsA, .int (nI L.length), tx_reach, .ref deA, .ref goA, tx_waits])), (ch, .inr (1, [ch_at, .ref cpA, ch_file, ch_firstLine, ch_adds, ch_files])), (ln, .inr (4, [ln_at, ln_length, .ref lcA, ln_place, .ref luA, .ref ldA, ln_ofFile, ln_total])), (sk, .inr (9, [sk_bytes, sk_from, sk_firstDependency, sk_firstChange, sk_dependencies, sk_hashes, sk_byHash, .ref loA, .ref lbA, sk_changes, sk_lines, sk_patches])), (cpA, .inl (cI, 38000, .inl Z.cp)), (lcA, .inl (cI, 4000, .inl S.lc)), (tsA, .inl (cI, 4000, .inl sl)), (loA, .inl (cL, 4000, .inr (.inl S.lo))), (lbA, .inl (cL, 4000, .inr (.inl S.lb))), (deA, .inl (cL, 3200, .inr (.inl de))), (luA, .inl (cI, 4000, .inl S.lu)), (ldA, .inl (cI, 4000, .inl S.ld)), (trA, .inl (cI, 400, .inl rw9)), (goA, .inl (cI, 400, .inl go))] := hD
  refine lv_aload_n hx hb d_Tx_countDeadAndStranded_5 rfl (lv_at hl 0 rfl) ?_
  refine lv_iconst (v := 0) hx hb d_Tx_countDeadAndStranded_6 (by decide) ?_
  refine va_put (D := (dC, dI)) (ci := 10) (v := .int 0) (ty := .int) (C := R_Tx) (T := F_Tx) (N := 19) hx hb hts i_Tx t_Tx t_Tx_ok n_Tx hown hK hP hD hS 0 rfl rfl 4 (by decide) (hts _ gw_384) (fun _ h9 => h9) rfl (by decide +kernel) rfl rfl (Nat.le_of_ble_eq_true rfl) d_Tx_countDeadAndStranded_7 (fun H locs hP hD hS => ?_)
  have hP : va_P (dC, dI) classes [(h, .inr (10, [tx_order, tx_length, tx_size, tx_unsure, .int 0, .int 0, .ref sk, .ref ch, .ref ln, tx_loaded, tx_version, tx_loadedFile, .ref trA, .ref tsA, .int (nI L.length), tx_reach, .ref deA, .ref goA, tx_waits])), (ch, .inr (1, [ch_at, .ref cpA, ch_file, ch_firstLine, ch_adds, ch_files])), (ln, .inr (4, [ln_at, ln_length, .ref lcA, ln_place, .ref luA, .ref ldA, ln_ofFile, ln_total])), (sk, .inr (9, [sk_bytes, sk_from, sk_firstDependency, sk_firstChange, sk_dependencies, sk_hashes, sk_byHash, .ref loA, .ref lbA, sk_changes, sk_lines, sk_patches])), (cpA, .inl (cI, 38000, .inl Z.cp)), (lcA, .inl (cI, 4000, .inl S.lc)), (tsA, .inl (cI, 4000, .inl sl)), (loA, .inl (cL, 4000, .inr (.inl S.lo))), (lbA, .inl (cL, 4000, .inr (.inl S.lb))), (deA, .inl (cL, 3200, .inr (.inl de))), (luA, .inl (cI, 4000, .inl S.lu)), (ldA, .inl (cI, 4000, .inl S.ld)), (trA, .inl (cI, 400, .inl rw9)), (goA, .inl (cI, 400, .inl go))] H := hP
  have hD : va_D A [(h, .inr (10, [tx_order, tx_length, tx_size, tx_unsure, .int 0, .int 0, .ref sk, .ref ch, .ref ln, tx_loaded, tx_version, tx_loadedFile, .ref trA, .ref tsA, .int (nI L.length), tx_reach, .ref deA, .ref goA, tx_waits])), (ch, .inr (1, [ch_at, .ref cpA, ch_file, ch_firstLine, ch_adds, ch_files])), (ln, .inr (4, [ln_at, ln_length, .ref lcA, ln_place, .ref luA, .ref ldA, ln_ofFile, ln_total])), (sk, .inr (9, [sk_bytes, sk_from, sk_firstDependency, sk_firstChange, sk_dependencies, sk_hashes, sk_byHash, .ref loA, .ref lbA, sk_changes, sk_lines, sk_patches])), (cpA, .inl (cI, 38000, .inl Z.cp)), (lcA, .inl (cI, 4000, .inl S.lc)), (tsA, .inl (cI, 4000, .inl sl)), (loA, .inl (cL, 4000, .inr (.inl S.lo))), (lbA, .inl (cL, 4000, .inr (.inl S.lb))), (deA, .inl (cL, 3200, .inr (.inl de))), (luA, .inl (cI, 4000, .inl S.lu)), (ldA, .inl (cI, 4000, .inl S.ld)), (trA, .inl (cI, 400, .inl rw9)), (goA, .inl (cI, 400, .inl go))] := hD
  refine lv_iconst (v := 0) hx hb d_Tx_countDeadAndStranded_10 (by decide) ?_
  refine lv_istore_n (lv' := [(1, .int 0), (0, .ref h)]) hx hb d_Tx_countDeadAndStranded_11 rfl hl (by decide) rfl (fun ls hl => ?_)
  have loop_12 : ∀ (n9 : Nat) (i : Nat) (H : Heap) (locs : List Loc) (ls : Array Slot), L.length - i < n9 → (i ≤ L.length) → va_P (dC, dI) classes [(h, .inr (10, [tx_order, tx_length, tx_size, tx_unsure, .int (nI (cnt (sB S L GG DD PT) i)), .int (nI (cnt (dB L GG) i)), .ref sk, .ref ch, .ref ln, tx_loaded, tx_version, tx_loadedFile, .ref trA, .ref tsA, .int (nI L.length), tx_reach, .ref deA, .ref goA, tx_waits])), (ch, .inr (1, [ch_at, .ref cpA, ch_file, ch_firstLine, ch_adds, ch_files])), (ln, .inr (4, [ln_at, ln_length, .ref lcA, ln_place, .ref luA, .ref ldA, ln_ofFile, ln_total])), (sk, .inr (9, [sk_bytes, sk_from, sk_firstDependency, sk_firstChange, sk_dependencies, sk_hashes, sk_byHash, .ref loA, .ref lbA, sk_changes, sk_lines, sk_patches])), (cpA, .inl (cI, 38000, .inl Z.cp)), (lcA, .inl (cI, 4000, .inl S.lc)), (tsA, .inl (cI, 4000, .inl sl)), (loA, .inl (cL, 4000, .inr (.inl S.lo))), (lbA, .inl (cL, 4000, .inr (.inl S.lb))), (deA, .inl (cL, 3200, .inr (.inl de))), (luA, .inl (cI, 4000, .inl S.lu)), (ldA, .inl (cI, 4000, .inl S.ld)), (trA, .inl (cI, 400, .inl rw9)), (goA, .inl (cI, 400, .inl go))] H → va_D A [(h, .inr (10, [tx_order, tx_length, tx_size, tx_unsure, .int (nI (cnt (sB S L GG DD PT) i)), .int (nI (cnt (dB L GG) i)), .ref sk, .ref ch, .ref ln, tx_loaded, tx_version, tx_loadedFile, .ref trA, .ref tsA, .int (nI L.length), tx_reach, .ref deA, .ref goA, tx_waits])), (ch, .inr (1, [ch_at, .ref cpA, ch_file, ch_firstLine, ch_adds, ch_files])), (ln, .inr (4, [ln_at, ln_length, .ref lcA, ln_place, .ref luA, .ref ldA, ln_ofFile, ln_total])), (sk, .inr (9, [sk_bytes, sk_from, sk_firstDependency, sk_firstChange, sk_dependencies, sk_hashes, sk_byHash, .ref loA, .ref lbA, sk_changes, sk_lines, sk_patches])), (cpA, .inl (cI, 38000, .inl Z.cp)), (lcA, .inl (cI, 4000, .inl S.lc)), (tsA, .inl (cI, 4000, .inl sl)), (loA, .inl (cL, 4000, .inr (.inl S.lo))), (lbA, .inl (cL, 4000, .inr (.inl S.lb))), (deA, .inl (cL, 3200, .inr (.inl de))), (luA, .inl (cI, 4000, .inl S.lu)), (ldA, .inl (cI, 4000, .inl S.ld)), (trA, .inl (cI, 400, .inl rw9)), (goA, .inl (cI, 400, .inl go))] → va_S A s.heap H locs → lv_has ls 3 [(0, .ref h), (1, .int (nI i))] → W p l e (headSpec ws_Tx_countDeadAndStranded ({ frames := 1, cells := 0, slots := 0, locals := 80 })).room s m ([.ref h] : List Value).toArray below meth c H locs 0 0 Q (F0 m 12 ls []) := by
    intro n9
    induction n9 with
    | zero => intro i H locs ls hm; exact absurd hm (Nat.not_lt_zero _)
    | succ n9 ih_12 =>
      intro i H locs ls hm hi hP hD hS hl
      have hc1 := cnt_le (dB L GG) i
      have hc2 := cnt_le (sB S L GG DD PT) i
      refine lv_iload_n hx hb d_Tx_countDeadAndStranded_12 rfl (lv_at hl 1 rfl) ?_
      refine lv_aload_n hx hb d_Tx_countDeadAndStranded_13 rfl (lv_at hl 0 rfl) ?_
      refine va_get (D := (dC, dI)) (ci := 10) (v := .int (nI L.length)) (C := R_Tx) (T := F_Tx) (N := 19) hx hb hts i_Tx hown hK hP 0 rfl rfl 14 (by decide) (hts _ gw_396) (fun _ h9 => h9) rfl d_Tx_countDeadAndStranded_14 ?_
      refine lv_icmp_ge (tgt := 99) hx hb d_Tx_countDeadAndStranded_17 (by decide) (fun c_17 => ?_) (fun c_17 => ?_)
      · have n_17 : L.length ≤ i := (nI_leI (a := L.length) (b := i) (by omega) (by omega)).mp c_17
        rw [show i = L.length by omega] at hP hD
        rw [← hQe]
        exact W.vret hx hb hr (fun t ht hW => ⟨⟨(), rfl, trivial, by rw [ht]; exact hP, va_K.moved hW.alike hK, hD⟩, hS.F ht⟩) hS.2.2 d_Tx_countDeadAndStranded_99
      · have n_17 : i < L.length := Nat.lt_of_not_le (fun z => c_17 ((nI_leI (a := L.length) (b := i) (by omega) (by omega)).mpr z))
        have hxm := getD_mem n_17
        have hx4 := hL5 _ hxm
        obtain ⟨c8, hc8, hc38, hp8, hp58⟩ := hpt _ hxm
        refine lv_aload_n hx hb d_Tx_countDeadAndStranded_20 rfl (lv_at hl 0 rfl) ?_
        refine va_get (D := (dC, dI)) (ci := 10) (v := .ref trA) (C := R_Tx) (T := F_Tx) (N := 19) hx hb hts i_Tx hown hK hP 0 rfl rfl 12 (by decide) (hts _ gw_394) (fun _ h9 => h9) rfl d_Tx_countDeadAndStranded_21 ?_
        refine lv_iload_n hx hb d_Tx_countDeadAndStranded_24 rfl (lv_at hl 1 rfl) ?_
        refine va_iald hx hb hK hP 12 0 rfl rfl (vp_in_nI (by omega) (by omega)) d_Tx_countDeadAndStranded_25 ?_
        rw [show (nI i).toNatClampNeg = i from nI_clamp (by omega)]
        refine lv_topi (fun x_1 ex_1 => ?_)
        obtain rfl : x_1 = nI (L.getD i 0) := by rw [ex_1]; first | done | (exact hrw i n_17)
        refine lv_istore_n (lv' := [(2, .int (nI (L.getD i 0))), (0, .ref h), (1, .int (nI i))]) hx hb d_Tx_countDeadAndStranded_26 rfl hl (by decide) rfl (fun ls hl => ?_)
        refine lv_aload_n hx hb d_Tx_countDeadAndStranded_27 rfl (lv_at hl 1 rfl) ?_
        refine va_get (D := (dC, dI)) (ci := 10) (v := .ref goA) (C := R_Tx) (T := F_Tx) (N := 19) hx hb hts i_Tx hown hK hP 0 rfl rfl 17 (by decide) (hts _ gw_399) (fun _ h9 => h9) rfl d_Tx_countDeadAndStranded_28 ?_
        refine lv_iload_n hx hb d_Tx_countDeadAndStranded_31 rfl (lv_at hl 2 rfl) ?_
        refine va_iald hx hb hK hP 13 0 rfl rfl (vp_in_nI (by omega) (by omega)) d_Tx_countDeadAndStranded_32 ?_
        rw [show (nI i).toNatClampNeg = i from nI_clamp (by omega)]
        refine lv_if_eq (tgt := 49) hx hb d_Tx_countDeadAndStranded_33 (by decide) (fun c_33 => ?_) (fun c_33 => ?_)
        · have hng : ¬ GG (L.getD i 0) := (hgR i n_17).elim (fun z => absurd (z.1.symm.trans c_33) (by decide)) (fun z => z.2)
          have hdB : ¬ (dB L GG) i = true := fun z => hng (dB_iff.mp z)
          refine lv_aload_n hx hb d_Tx_countDeadAndStranded_49 rfl (lv_at hl 1 rfl) ?_
          refine lv_iload_n hx hb d_Tx_countDeadAndStranded_50 rfl (lv_at hl 0 rfl) ?_
          refine lv_aload_n hx hb d_Tx_countDeadAndStranded_51 rfl (lv_at hl 1 rfl) ?_
          refine va_get (D := (dC, dI)) (ci := 10) (v := .ref ln) (C := R_Tx) (T := F_Tx) (N := 19) hx hb hts i_Tx hown hK hP 0 rfl rfl 8 (by decide) (hts _ gw_390) (fun _ h9 => h9) rfl d_Tx_countDeadAndStranded_52 ?_
          refine va_get (D := (dC, dI)) (ci := 4) (v := .ref luA) (C := R_Li) (T := F_Li) (N := 8) hx hb hts i_Li hown hK hP 2 rfl rfl 4 (by decide) (hts _ gw_155) (fun _ h9 => h9) rfl d_Tx_countDeadAndStranded_55 ?_
          refine lv_iload_n hx hb d_Tx_countDeadAndStranded_58 rfl (lv_at hl 0 rfl) ?_
          refine va_iald hx hb hK hP 10 0 rfl rfl (vp_in_nI (by omega) (by omega)) d_Tx_countDeadAndStranded_59 ?_
          rw [show (nI (L.getD i 0)).toNatClampNeg = (L.getD i 0) from nI_clamp (by omega)]
          have hPc := hP.sub (ws' := [(h, .inr (10, [tx_order, tx_length, tx_size, tx_unsure, .int (nI (cnt (sB S L GG DD PT) i)), .int (nI (cnt (dB L GG) i)), .ref sk, .ref ch, .ref ln, tx_loaded, tx_version, tx_loadedFile, .ref trA, .ref tsA, .int (nI L.length), tx_reach, .ref deA, .ref goA, tx_waits])), (ch, .inr (1, [ch_at, .ref cpA, ch_file, ch_firstLine, ch_adds, ch_files])), (ln, .inr (4, [ln_at, ln_length, .ref lcA, ln_place, .ref luA, .ref ldA, ln_ofFile, ln_total])), (sk, .inr (9, [sk_bytes, sk_from, sk_firstDependency, sk_firstChange, sk_dependencies, sk_hashes, sk_byHash, .ref loA, .ref lbA, sk_changes, sk_lines, sk_patches])), (cpA, .inl (cI, 38000, .inl Z.cp)), (lcA, .inl (cI, 4000, .inl S.lc)), (tsA, .inl (cI, 4000, .inl sl)), (loA, .inl (cL, 4000, .inr (.inl S.lo))), (lbA, .inl (cL, 4000, .inr (.inl S.lb))), (deA, .inl (cL, 3200, .inr (.inl de)))]) [0, 1, 2, 3, 4, 5, 6, 7, 8, 9] rfl
          have hDc := hD.sub (ws' := [(h, .inr (10, [tx_order, tx_length, tx_size, tx_unsure, .int (nI (cnt (sB S L GG DD PT) i)), .int (nI (cnt (dB L GG) i)), .ref sk, .ref ch, .ref ln, tx_loaded, tx_version, tx_loadedFile, .ref trA, .ref tsA, .int (nI L.length), tx_reach, .ref deA, .ref goA, tx_waits])), (ch, .inr (1, [ch_at, .ref cpA, ch_file, ch_firstLine, ch_adds, ch_files])), (ln, .inr (4, [ln_at, ln_length, .ref lcA, ln_place, .ref luA, .ref ldA, ln_ofFile, ln_total])), (sk, .inr (9, [sk_bytes, sk_from, sk_firstDependency, sk_firstChange, sk_dependencies, sk_hashes, sk_byHash, .ref loA, .ref lbA, sk_changes, sk_lines, sk_patches])), (cpA, .inl (cI, 38000, .inl Z.cp)), (lcA, .inl (cI, 4000, .inl S.lc)), (tsA, .inl (cI, 4000, .inl sl)), (loA, .inl (cL, 4000, .inr (.inl S.lo))), (lbA, .inl (cL, 4000, .inr (.inl S.lb))), (deA, .inl (cL, 3200, .inr (.inl de)))]) [0, 1, 2, 3, 4, 5, 6, 7, 8, 9] (by decide) rfl
          have hFc := va_free (wc := [(h, .inr (10, [tx_order, tx_length, tx_size, tx_unsure, .int (nI (cnt (sB S L GG DD PT) i)), .int (nI (cnt (dB L GG) i)), .ref sk, .ref ch, .ref ln, tx_loaded, tx_version, tx_loadedFile, .ref trA, .ref tsA, .int (nI L.length), tx_reach, .ref deA, .ref goA, tx_waits])), (ch, .inr (1, [ch_at, .ref cpA, ch_file, ch_firstLine, ch_adds, ch_files])), (ln, .inr (4, [ln_at, ln_length, .ref lcA, ln_place, .ref luA, .ref ldA, ln_ofFile, ln_total])), (sk, .inr (9, [sk_bytes, sk_from, sk_firstDependency, sk_firstChange, sk_dependencies, sk_hashes, sk_byHash, .ref loA, .ref lbA, sk_changes, sk_lines, sk_patches])), (cpA, .inl (cI, 38000, .inl Z.cp)), (lcA, .inl (cI, 4000, .inl S.lc)), (tsA, .inl (cI, 4000, .inl sl)), (loA, .inl (cL, 4000, .inr (.inl S.lo))), (lbA, .inl (cL, 4000, .inr (.inl S.lb))), (deA, .inl (cL, 3200, .inr (.inl de)))]) hD hS hA [0, 1, 2, 3, 4, 5, 6, 7, 8, 9] rfl
          refine va_calli (va_runV (As := [.int (nI (L.getD i 0)), .int (S.lu (L.getD i 0))]) (rest := []) ⟨hx, hb, hml, hown, hts⟩ (m_Tx_isLost l dC dI cI cB cL cZ cR h ch ln sk cpA lcA tsA loA lbA deA (tx_order) (tx_length) (tx_size) (tx_unsure) (.int (nI (cnt (sB S L GG DD PT) i))) (.int (nI (cnt (dB L GG) i))) (tx_loaded) (tx_version) (tx_loadedFile) (.ref trA) (.int (nI L.length)) (tx_reach) (.ref goA) (tx_waits) (ch_at) (ch_file) (ch_firstLine) (ch_adds) (ch_files) (ln_at) (ln_length) (ln_place) (.ref luA) (.ref ldA) (ln_ofFile) (ln_total) (sk_bytes) (sk_from) (sk_firstDependency) (sk_firstChange) (sk_dependencies) (sk_hashes) (sk_byHash) (sk_changes) (sk_lines) (sk_patches) Z S sl de (L.getD i 0) c8 (PT (L.getD i 0)) (S.lu (L.getD i 0)) H.size hx4 hc8 hc38 hp8 hp58 (hnvx _ (hgr _ hxm).2.2.1)) (cwV 2 hts (xg_V gw_1089 gw_1091 (xg_p 48 (q := (⟨"PatchStore$Text", "isLost", "(II)Z"⟩, 19)) (by decide +kernel)) gw_9 gw_1092) rfl rfl rfl (by decide +kernel) ⟨Nat.le_of_ble_eq_true rfl, Nat.le_of_ble_eq_true rfl⟩) ⟨xw_blind, va_recv hK hPc (ci := 10) (q0 := 0) rfl rfl, fun U hU hW => ⟨rfl, by rw [hU], by rw [hU]; exact hPc, va_K.moved hW.alike hK, hDc.weaken (fun _ _ _ _ => trivial)⟩⟩ rfl rfl hl.1 rfl (lv_room (Nat.le_of_ble_eq_true rfl)) d_Tx_countDeadAndStranded_60 ⟨Nat.le_of_ble_eq_true rfl, Nat.le_of_ble_eq_true rfl⟩) hS (fun q _ h => hFc q h) hFc (fun r9 u t H1 locs ht hvm hw hB hz1 hk1 hS => ?_)
          obtain ⟨hP1, hK1, hD1⟩ := hB
          rw [ht] at hP1
          obtain ⟨hP, hD⟩ := va_join (wr := [(luA, .inl (cI, 4000, .inl S.lu)), (ldA, .inl (cI, 4000, .inl S.ld)), (trA, .inl (cI, 400, .inl rw9)), (goA, .inl (cI, 400, .inl go))]) (w1 := [(h, .inr (10, [tx_order, tx_length, tx_size, tx_unsure, .int (nI (cnt (sB S L GG DD PT) i)), .int (nI (cnt (dB L GG) i)), .ref sk, .ref ch, .ref ln, tx_loaded, tx_version, tx_loadedFile, .ref trA, .ref tsA, .int (nI L.length), tx_reach, .ref deA, .ref goA, tx_waits])), (ch, .inr (1, [ch_at, .ref cpA, ch_file, ch_firstLine, ch_adds, ch_files])), (ln, .inr (4, [ln_at, ln_length, .ref lcA, ln_place, .ref luA, .ref ldA, ln_ofFile, ln_total])), (sk, .inr (9, [sk_bytes, sk_from, sk_firstDependency, sk_firstChange, sk_dependencies, sk_hashes, sk_byHash, .ref loA, .ref lbA, sk_changes, sk_lines, sk_patches])), (cpA, .inl (cI, 38000, .inl Z.cp)), (lcA, .inl (cI, 4000, .inl S.lc)), (tsA, .inl (cI, 4000, .inl sl)), (loA, .inl (cL, 4000, .inr (.inl S.lo))), (lbA, .inl (cL, 4000, .inr (.inl S.lb))), (deA, .inl (cL, 3200, .inr (.inl de)))]) hP hD [0, 1, 2, 3, 4, 5, 6, 7, 8, 9] [10, 11, 12, 13] rfl rfl (by decide) (by decide) hk1 hFc hP1 hD1
          generalize H1 = H at hP hS ⊢
          have hP : va_P (dC, dI) classes [(luA, .inl (cI, 4000, .inl S.lu)), (ldA, .inl (cI, 4000, .inl S.ld)), (trA, .inl (cI, 400, .inl rw9)), (goA, .inl (cI, 400, .inl go)), (h, .inr (10, [tx_order, tx_length, tx_size, tx_unsure, .int (nI (cnt (sB S L GG DD PT) i)), .int (nI (cnt (dB L GG) i)), .ref sk, .ref ch, .ref ln, tx_loaded, tx_version, tx_loadedFile, .ref trA, .ref tsA, .int (nI L.length), tx_reach, .ref deA, .ref goA, tx_waits])), (ch, .inr (1, [ch_at, .ref cpA, ch_file, ch_firstLine, ch_adds, ch_files])), (ln, .inr (4, [ln_at, ln_length, .ref lcA, ln_place, .ref luA, .ref ldA, ln_ofFile, ln_total])), (sk, .inr (9, [sk_bytes, sk_from, sk_firstDependency, sk_firstChange, sk_dependencies, sk_hashes, sk_byHash, .ref loA, .ref lbA, sk_changes, sk_lines, sk_patches])), (cpA, .inl (cI, 38000, .inl Z.cp)), (lcA, .inl (cI, 4000, .inl S.lc)), (tsA, .inl (cI, 4000, .inl sl)), (loA, .inl (cL, 4000, .inr (.inl S.lo))), (lbA, .inl (cL, 4000, .inr (.inl S.lb))), (deA, .inl (cL, 3200, .inr (.inl de)))] H := hP
          have hD : va_D A [(luA, .inl (cI, 4000, .inl S.lu)), (ldA, .inl (cI, 4000, .inl S.ld)), (trA, .inl (cI, 400, .inl rw9)), (goA, .inl (cI, 400, .inl go)), (h, .inr (10, [tx_order, tx_length, tx_size, tx_unsure, .int (nI (cnt (sB S L GG DD PT) i)), .int (nI (cnt (dB L GG) i)), .ref sk, .ref ch, .ref ln, tx_loaded, tx_version, tx_loadedFile, .ref trA, .ref tsA, .int (nI L.length), tx_reach, .ref deA, .ref goA, tx_waits])), (ch, .inr (1, [ch_at, .ref cpA, ch_file, ch_firstLine, ch_adds, ch_files])), (ln, .inr (4, [ln_at, ln_length, .ref lcA, ln_place, .ref luA, .ref ldA, ln_ofFile, ln_total])), (sk, .inr (9, [sk_bytes, sk_from, sk_firstDependency, sk_firstChange, sk_dependencies, sk_hashes, sk_byHash, .ref loA, .ref lbA, sk_changes, sk_lines, sk_patches])), (cpA, .inl (cI, 38000, .inl Z.cp)), (lcA, .inl (cI, 4000, .inl S.lc)), (tsA, .inl (cI, 4000, .inl sl)), (loA, .inl (cL, 4000, .inr (.inl S.lo))), (lbA, .inl (cL, 4000, .inr (.inl S.lb))), (deA, .inl (cL, 3200, .inr (.inl de)))] := hD
          have hlup : (r9 = 1 ∧ lostL S DD (PT (L.getD i 0)) (S.lu (L.getD i 0))) ∨ (r9 = 0 ∧ ¬ lostL S DD (PT (L.getD i 0)) (S.lu (L.getD i 0))) := by
            rcases hw with ⟨e9, rfl⟩ | ⟨v9, a9, e9, hv9, hs9, ha9, hr9⟩
            · exact Or.inr ⟨rfl, by rw [e9]; exact lostL_no⟩
            · obtain ⟨b9, hb9, hc9⟩ := hsx _ (hgr _ hxm).2.2.1 v9 e9 hv9
              have e8 : a9 = b9 := (nI_eq (by omega) (by omega)).mp (hs9.symm.trans (by rw [← hc9]; exact hsl b9 hb9))
              subst e8
              rw [e9, lostL_iff hdR hb9 hc9 hv9]; exact hr9
          clear hw
          rcases hlup with ⟨rfl, hlup⟩ | ⟨rfl, hlup⟩
          · skip
            refine lv_if_ne (tgt := 83) hx hb d_Tx_countDeadAndStranded_63 (by decide) (fun _ => ?_) (fun c_63 => absurd c_63 (by decide))
            have hsB : (sB S L GG DD PT) i = true := sB_iff.mpr ⟨hng, Or.inl hlup⟩
            refine lv_aload_n hx hb d_Tx_countDeadAndStranded_83 rfl (lv_at hl 1 rfl) ?_
            refine lv_dup hx hb d_Tx_countDeadAndStranded_84 rfl ?_
            refine va_get (D := (dC, dI)) (ci := 10) (v := .int (nI (cnt (sB S L GG DD PT) i))) (C := R_Tx) (T := F_Tx) (N := 19) hx hb hts i_Tx hown hK hP 4 rfl rfl 4 (by decide) (hts _ gw_384) (fun _ h9 => h9) rfl d_Tx_countDeadAndStranded_85 ?_
            refine lv_iconst (v := 1) hx hb d_Tx_countDeadAndStranded_88 (by decide) ?_
            refine lv_iadd hx hb d_Tx_countDeadAndStranded_89 ?_
            refine lv_topi (fun x_2 ex_2 => ?_)
            obtain rfl : x_2 = nI ((cnt (sB S L GG DD PT) i) + 1) := by rw [ex_2]; first | done | (exact nI_add _ _)
            refine va_put (D := (dC, dI)) (ci := 10) (v := .int (nI ((cnt (sB S L GG DD PT) i) + 1))) (ty := .int) (C := R_Tx) (T := F_Tx) (N := 19) hx hb hts i_Tx t_Tx t_Tx_ok n_Tx hown hK hP hD hS 4 rfl rfl 4 (by decide) (hts _ gw_384) (fun _ h9 => h9) rfl (by decide +kernel) rfl rfl (Nat.le_of_ble_eq_true rfl) d_Tx_countDeadAndStranded_90 (fun H locs hP hD hS => ?_)
            have hP : va_P (dC, dI) classes [(luA, .inl (cI, 4000, .inl S.lu)), (ldA, .inl (cI, 4000, .inl S.ld)), (trA, .inl (cI, 400, .inl rw9)), (goA, .inl (cI, 400, .inl go)), (h, .inr (10, [tx_order, tx_length, tx_size, tx_unsure, .int (nI ((cnt (sB S L GG DD PT) i) + 1)), .int (nI (cnt (dB L GG) i)), .ref sk, .ref ch, .ref ln, tx_loaded, tx_version, tx_loadedFile, .ref trA, .ref tsA, .int (nI L.length), tx_reach, .ref deA, .ref goA, tx_waits])), (ch, .inr (1, [ch_at, .ref cpA, ch_file, ch_firstLine, ch_adds, ch_files])), (ln, .inr (4, [ln_at, ln_length, .ref lcA, ln_place, .ref luA, .ref ldA, ln_ofFile, ln_total])), (sk, .inr (9, [sk_bytes, sk_from, sk_firstDependency, sk_firstChange, sk_dependencies, sk_hashes, sk_byHash, .ref loA, .ref lbA, sk_changes, sk_lines, sk_patches])), (cpA, .inl (cI, 38000, .inl Z.cp)), (lcA, .inl (cI, 4000, .inl S.lc)), (tsA, .inl (cI, 4000, .inl sl)), (loA, .inl (cL, 4000, .inr (.inl S.lo))), (lbA, .inl (cL, 4000, .inr (.inl S.lb))), (deA, .inl (cL, 3200, .inr (.inl de)))] H := hP
            have hD : va_D A [(luA, .inl (cI, 4000, .inl S.lu)), (ldA, .inl (cI, 4000, .inl S.ld)), (trA, .inl (cI, 400, .inl rw9)), (goA, .inl (cI, 400, .inl go)), (h, .inr (10, [tx_order, tx_length, tx_size, tx_unsure, .int (nI ((cnt (sB S L GG DD PT) i) + 1)), .int (nI (cnt (dB L GG) i)), .ref sk, .ref ch, .ref ln, tx_loaded, tx_version, tx_loadedFile, .ref trA, .ref tsA, .int (nI L.length), tx_reach, .ref deA, .ref goA, tx_waits])), (ch, .inr (1, [ch_at, .ref cpA, ch_file, ch_firstLine, ch_adds, ch_files])), (ln, .inr (4, [ln_at, ln_length, .ref lcA, ln_place, .ref luA, .ref ldA, ln_ofFile, ln_total])), (sk, .inr (9, [sk_bytes, sk_from, sk_firstDependency, sk_firstChange, sk_dependencies, sk_hashes, sk_byHash, .ref loA, .ref lbA, sk_changes, sk_lines, sk_patches])), (cpA, .inl (cI, 38000, .inl Z.cp)), (lcA, .inl (cI, 4000, .inl S.lc)), (tsA, .inl (cI, 4000, .inl sl)), (loA, .inl (cL, 4000, .inr (.inl S.lo))), (lbA, .inl (cL, 4000, .inr (.inl S.lb))), (deA, .inl (cL, 3200, .inr (.inl de)))] := hD
            rw [show nI (cnt (dB L GG) i) = nI (cnt (dB L GG) (i + 1)) from congrArg nI (cnt_no hdB), show nI ((cnt (sB S L GG DD PT) i) + 1) = nI (cnt (sB S L GG DD PT) (i + 1)) from congrArg nI (cnt_yes hsB)] at hP hD
            refine lv_iinc (v := nI (i + 1)) (lv' := [(1, .int (nI (i + 1))), (2, .int (nI (L.getD i 0))), (0, .ref h)]) hx hb d_Tx_countDeadAndStranded_93 hl (k := 2) rfl (by exact nI_add _ _) (by decide) rfl (fun ls hl => ?_)
            refine lv_goto (tgt := 12) hx hb d_Tx_countDeadAndStranded_96 (by decide) ?_
            exact ih_12 (i + 1) _ _ _ (by omega) (by omega) (hP.sub [4, 5, 6, 7, 8, 9, 10, 11, 12, 13, 0, 1, 2, 3] rfl) (hD.sub [4, 5, 6, 7, 8, 9, 10, 11, 12, 13, 0, 1, 2, 3] (by decide) rfl) hS (lv_sub hl [2, 0] rfl)
          · skip
            refine lv_if_ne (tgt := 83) hx hb d_Tx_countDeadAndStranded_63 (by decide) (fun c_63 => absurd c_63 (by decide)) (fun _ => ?_)
            refine lv_aload_n hx hb d_Tx_countDeadAndStranded_66 rfl (lv_at hl 1 rfl) ?_
            refine lv_iload_n hx hb d_Tx_countDeadAndStranded_67 rfl (lv_at hl 0 rfl) ?_
            refine lv_aload_n hx hb d_Tx_countDeadAndStranded_68 rfl (lv_at hl 1 rfl) ?_
            refine va_get (D := (dC, dI)) (ci := 10) (v := .ref ln) (C := R_Tx) (T := F_Tx) (N := 19) hx hb hts i_Tx hown hK hP 4 rfl rfl 8 (by decide) (hts _ gw_390) (fun _ h9 => h9) rfl d_Tx_countDeadAndStranded_69 ?_
            refine va_get (D := (dC, dI)) (ci := 4) (v := .ref ldA) (C := R_Li) (T := F_Li) (N := 8) hx hb hts i_Li hown hK hP 6 rfl rfl 5 (by decide) (hts _ gw_158) (fun _ h9 => h9) rfl d_Tx_countDeadAndStranded_72 ?_
            refine lv_iload_n hx hb d_Tx_countDeadAndStranded_75 rfl (lv_at hl 0 rfl) ?_
            refine va_iald hx hb hK hP 1 0 rfl rfl (vp_in_nI (by omega) (by omega)) d_Tx_countDeadAndStranded_76 ?_
            rw [show (nI (L.getD i 0)).toNatClampNeg = (L.getD i 0) from nI_clamp (by omega)]
            have hPc := hP.sub (ws' := [(h, .inr (10, [tx_order, tx_length, tx_size, tx_unsure, .int (nI (cnt (sB S L GG DD PT) i)), .int (nI (cnt (dB L GG) i)), .ref sk, .ref ch, .ref ln, tx_loaded, tx_version, tx_loadedFile, .ref trA, .ref tsA, .int (nI L.length), tx_reach, .ref deA, .ref goA, tx_waits])), (ch, .inr (1, [ch_at, .ref cpA, ch_file, ch_firstLine, ch_adds, ch_files])), (ln, .inr (4, [ln_at, ln_length, .ref lcA, ln_place, .ref luA, .ref ldA, ln_ofFile, ln_total])), (sk, .inr (9, [sk_bytes, sk_from, sk_firstDependency, sk_firstChange, sk_dependencies, sk_hashes, sk_byHash, .ref loA, .ref lbA, sk_changes, sk_lines, sk_patches])), (cpA, .inl (cI, 38000, .inl Z.cp)), (lcA, .inl (cI, 4000, .inl S.lc)), (tsA, .inl (cI, 4000, .inl sl)), (loA, .inl (cL, 4000, .inr (.inl S.lo))), (lbA, .inl (cL, 4000, .inr (.inl S.lb))), (deA, .inl (cL, 3200, .inr (.inl de)))]) [4, 5, 6, 7, 8, 9, 10, 11, 12, 13] rfl
            have hDc := hD.sub (ws' := [(h, .inr (10, [tx_order, tx_length, tx_size, tx_unsure, .int (nI (cnt (sB S L GG DD PT) i)), .int (nI (cnt (dB L GG) i)), .ref sk, .ref ch, .ref ln, tx_loaded, tx_version, tx_loadedFile, .ref trA, .ref tsA, .int (nI L.length), tx_reach, .ref deA, .ref goA, tx_waits])), (ch, .inr (1, [ch_at, .ref cpA, ch_file, ch_firstLine, ch_adds, ch_files])), (ln, .inr (4, [ln_at, ln_length, .ref lcA, ln_place, .ref luA, .ref ldA, ln_ofFile, ln_total])), (sk, .inr (9, [sk_bytes, sk_from, sk_firstDependency, sk_firstChange, sk_dependencies, sk_hashes, sk_byHash, .ref loA, .ref lbA, sk_changes, sk_lines, sk_patches])), (cpA, .inl (cI, 38000, .inl Z.cp)), (lcA, .inl (cI, 4000, .inl S.lc)), (tsA, .inl (cI, 4000, .inl sl)), (loA, .inl (cL, 4000, .inr (.inl S.lo))), (lbA, .inl (cL, 4000, .inr (.inl S.lb))), (deA, .inl (cL, 3200, .inr (.inl de)))]) [4, 5, 6, 7, 8, 9, 10, 11, 12, 13] (by decide) rfl
            have hFc := va_free (wc := [(h, .inr (10, [tx_order, tx_length, tx_size, tx_unsure, .int (nI (cnt (sB S L GG DD PT) i)), .int (nI (cnt (dB L GG) i)), .ref sk, .ref ch, .ref ln, tx_loaded, tx_version, tx_loadedFile, .ref trA, .ref tsA, .int (nI L.length), tx_reach, .ref deA, .ref goA, tx_waits])), (ch, .inr (1, [ch_at, .ref cpA, ch_file, ch_firstLine, ch_adds, ch_files])), (ln, .inr (4, [ln_at, ln_length, .ref lcA, ln_place, .ref luA, .ref ldA, ln_ofFile, ln_total])), (sk, .inr (9, [sk_bytes, sk_from, sk_firstDependency, sk_firstChange, sk_dependencies, sk_hashes, sk_byHash, .ref loA, .ref lbA, sk_changes, sk_lines, sk_patches])), (cpA, .inl (cI, 38000, .inl Z.cp)), (lcA, .inl (cI, 4000, .inl S.lc)), (tsA, .inl (cI, 4000, .inl sl)), (loA, .inl (cL, 4000, .inr (.inl S.lo))), (lbA, .inl (cL, 4000, .inr (.inl S.lb))), (deA, .inl (cL, 3200, .inr (.inl de)))]) hD hS hA [4, 5, 6, 7, 8, 9, 10, 11, 12, 13] rfl
            refine va_calli (va_runV (As := [.int (nI (L.getD i 0)), .int (S.ld (L.getD i 0))]) (rest := []) ⟨hx, hb, hml, hown, hts⟩ (m_Tx_isLost l dC dI cI cB cL cZ cR h ch ln sk cpA lcA tsA loA lbA deA (tx_order) (tx_length) (tx_size) (tx_unsure) (.int (nI (cnt (sB S L GG DD PT) i))) (.int (nI (cnt (dB L GG) i))) (tx_loaded) (tx_version) (tx_loadedFile) (.ref trA) (.int (nI L.length)) (tx_reach) (.ref goA) (tx_waits) (ch_at) (ch_file) (ch_firstLine) (ch_adds) (ch_files) (ln_at) (ln_length) (ln_place) (.ref luA) (.ref ldA) (ln_ofFile) (ln_total) (sk_bytes) (sk_from) (sk_firstDependency) (sk_firstChange) (sk_dependencies) (sk_hashes) (sk_byHash) (sk_changes) (sk_lines) (sk_patches) Z S sl de (L.getD i 0) c8 (PT (L.getD i 0)) (S.ld (L.getD i 0)) H.size hx4 hc8 hc38 hp8 hp58 (hnvx _ (hgr _ hxm).2.2.2)) (cwV 2 hts (xg_V gw_1089 gw_1091 (xg_p 48 (q := (⟨"PatchStore$Text", "isLost", "(II)Z"⟩, 19)) (by decide +kernel)) gw_9 gw_1092) rfl rfl rfl (by decide +kernel) ⟨Nat.le_of_ble_eq_true rfl, Nat.le_of_ble_eq_true rfl⟩) ⟨xw_blind, va_recv hK hPc (ci := 10) (q0 := 0) rfl rfl, fun U hU hW => ⟨rfl, by rw [hU], by rw [hU]; exact hPc, va_K.moved hW.alike hK, hDc.weaken (fun _ _ _ _ => trivial)⟩⟩ rfl rfl hl.1 rfl (lv_room (Nat.le_of_ble_eq_true rfl)) d_Tx_countDeadAndStranded_77 ⟨Nat.le_of_ble_eq_true rfl, Nat.le_of_ble_eq_true rfl⟩) hS (fun q _ h => hFc q h) hFc (fun r9 u t H1 locs ht hvm hw hB hz1 hk1 hS => ?_)
            obtain ⟨hP1, hK1, hD1⟩ := hB
            rw [ht] at hP1
            obtain ⟨hP, hD⟩ := va_join (wr := [(luA, .inl (cI, 4000, .inl S.lu)), (ldA, .inl (cI, 4000, .inl S.ld)), (trA, .inl (cI, 400, .inl rw9)), (goA, .inl (cI, 400, .inl go))]) (w1 := [(h, .inr (10, [tx_order, tx_length, tx_size, tx_unsure, .int (nI (cnt (sB S L GG DD PT) i)), .int (nI (cnt (dB L GG) i)), .ref sk, .ref ch, .ref ln, tx_loaded, tx_version, tx_loadedFile, .ref trA, .ref tsA, .int (nI L.length), tx_reach, .ref deA, .ref goA, tx_waits])), (ch, .inr (1, [ch_at, .ref cpA, ch_file, ch_firstLine, ch_adds, ch_files])), (ln, .inr (4, [ln_at, ln_length, .ref lcA, ln_place, .ref luA, .ref ldA, ln_ofFile, ln_total])), (sk, .inr (9, [sk_bytes, sk_from, sk_firstDependency, sk_firstChange, sk_dependencies, sk_hashes, sk_byHash, .ref loA, .ref lbA, sk_changes, sk_lines, sk_patches])), (cpA, .inl (cI, 38000, .inl Z.cp)), (lcA, .inl (cI, 4000, .inl S.lc)), (tsA, .inl (cI, 4000, .inl sl)), (loA, .inl (cL, 4000, .inr (.inl S.lo))), (lbA, .inl (cL, 4000, .inr (.inl S.lb))), (deA, .inl (cL, 3200, .inr (.inl de)))]) hP hD [4, 5, 6, 7, 8, 9, 10, 11, 12, 13] [0, 1, 2, 3] rfl rfl (by decide) (by decide) hk1 hFc hP1 hD1
            generalize H1 = H at hP hS ⊢
            have hP : va_P (dC, dI) classes [(luA, .inl (cI, 4000, .inl S.lu)), (ldA, .inl (cI, 4000, .inl S.ld)), (trA, .inl (cI, 400, .inl rw9)), (goA, .inl (cI, 400, .inl go)), (h, .inr (10, [tx_order, tx_length, tx_size, tx_unsure, .int (nI (cnt (sB S L GG DD PT) i)), .int (nI (cnt (dB L GG) i)), .ref sk, .ref ch, .ref ln, tx_loaded, tx_version, tx_loadedFile, .ref trA, .ref tsA, .int (nI L.length), tx_reach, .ref deA, .ref goA, tx_waits])), (ch, .inr (1, [ch_at, .ref cpA, ch_file, ch_firstLine, ch_adds, ch_files])), (ln, .inr (4, [ln_at, ln_length, .ref lcA, ln_place, .ref luA, .ref ldA, ln_ofFile, ln_total])), (sk, .inr (9, [sk_bytes, sk_from, sk_firstDependency, sk_firstChange, sk_dependencies, sk_hashes, sk_byHash, .ref loA, .ref lbA, sk_changes, sk_lines, sk_patches])), (cpA, .inl (cI, 38000, .inl Z.cp)), (lcA, .inl (cI, 4000, .inl S.lc)), (tsA, .inl (cI, 4000, .inl sl)), (loA, .inl (cL, 4000, .inr (.inl S.lo))), (lbA, .inl (cL, 4000, .inr (.inl S.lb))), (deA, .inl (cL, 3200, .inr (.inl de)))] H := hP
            have hD : va_D A [(luA, .inl (cI, 4000, .inl S.lu)), (ldA, .inl (cI, 4000, .inl S.ld)), (trA, .inl (cI, 400, .inl rw9)), (goA, .inl (cI, 400, .inl go)), (h, .inr (10, [tx_order, tx_length, tx_size, tx_unsure, .int (nI (cnt (sB S L GG DD PT) i)), .int (nI (cnt (dB L GG) i)), .ref sk, .ref ch, .ref ln, tx_loaded, tx_version, tx_loadedFile, .ref trA, .ref tsA, .int (nI L.length), tx_reach, .ref deA, .ref goA, tx_waits])), (ch, .inr (1, [ch_at, .ref cpA, ch_file, ch_firstLine, ch_adds, ch_files])), (ln, .inr (4, [ln_at, ln_length, .ref lcA, ln_place, .ref luA, .ref ldA, ln_ofFile, ln_total])), (sk, .inr (9, [sk_bytes, sk_from, sk_firstDependency, sk_firstChange, sk_dependencies, sk_hashes, sk_byHash, .ref loA, .ref lbA, sk_changes, sk_lines, sk_patches])), (cpA, .inl (cI, 38000, .inl Z.cp)), (lcA, .inl (cI, 4000, .inl S.lc)), (tsA, .inl (cI, 4000, .inl sl)), (loA, .inl (cL, 4000, .inr (.inl S.lo))), (lbA, .inl (cL, 4000, .inr (.inl S.lb))), (deA, .inl (cL, 3200, .inr (.inl de)))] := hD
            have hldn : (r9 = 1 ∧ lostL S DD (PT (L.getD i 0)) (S.ld (L.getD i 0))) ∨ (r9 = 0 ∧ ¬ lostL S DD (PT (L.getD i 0)) (S.ld (L.getD i 0))) := by
              rcases hw with ⟨e9, rfl⟩ | ⟨v9, a9, e9, hv9, hs9, ha9, hr9⟩
              · exact Or.inr ⟨rfl, by rw [e9]; exact lostL_no⟩
              · obtain ⟨b9, hb9, hc9⟩ := hsx _ (hgr _ hxm).2.2.2 v9 e9 hv9
                have e8 : a9 = b9 := (nI_eq (by omega) (by omega)).mp (hs9.symm.trans (by rw [← hc9]; exact hsl b9 hb9))
                subst e8
                rw [e9, lostL_iff hdR hb9 hc9 hv9]; exact hr9
            clear hw
            rcases hldn with ⟨rfl, hldn⟩ | ⟨rfl, hldn⟩
            · skip
              refine lv_if_eq (tgt := 93) hx hb d_Tx_countDeadAndStranded_80 (by decide) (fun c_80 => absurd c_80 (by decide)) (fun _ => ?_)
              have hsB : (sB S L GG DD PT) i = true := sB_iff.mpr ⟨hng, Or.inr hldn⟩
              refine lv_aload_n hx hb d_Tx_countDeadAndStranded_83 rfl (lv_at hl 1 rfl) ?_
              refine lv_dup hx hb d_Tx_countDeadAndStranded_84 rfl ?_
              refine va_get (D := (dC, dI)) (ci := 10) (v := .int (nI (cnt (sB S L GG DD PT) i))) (C := R_Tx) (T := F_Tx) (N := 19) hx hb hts i_Tx hown hK hP 4 rfl rfl 4 (by decide) (hts _ gw_384) (fun _ h9 => h9) rfl d_Tx_countDeadAndStranded_85 ?_
              refine lv_iconst (v := 1) hx hb d_Tx_countDeadAndStranded_88 (by decide) ?_
              refine lv_iadd hx hb d_Tx_countDeadAndStranded_89 ?_
              refine lv_topi (fun x_3 ex_3 => ?_)
              obtain rfl : x_3 = nI ((cnt (sB S L GG DD PT) i) + 1) := by rw [ex_3]; first | done | (exact nI_add _ _)
              refine va_put (D := (dC, dI)) (ci := 10) (v := .int (nI ((cnt (sB S L GG DD PT) i) + 1))) (ty := .int) (C := R_Tx) (T := F_Tx) (N := 19) hx hb hts i_Tx t_Tx t_Tx_ok n_Tx hown hK hP hD hS 4 rfl rfl 4 (by decide) (hts _ gw_384) (fun _ h9 => h9) rfl (by decide +kernel) rfl rfl (Nat.le_of_ble_eq_true rfl) d_Tx_countDeadAndStranded_90 (fun H locs hP hD hS => ?_)
              have hP : va_P (dC, dI) classes [(luA, .inl (cI, 4000, .inl S.lu)), (ldA, .inl (cI, 4000, .inl S.ld)), (trA, .inl (cI, 400, .inl rw9)), (goA, .inl (cI, 400, .inl go)), (h, .inr (10, [tx_order, tx_length, tx_size, tx_unsure, .int (nI ((cnt (sB S L GG DD PT) i) + 1)), .int (nI (cnt (dB L GG) i)), .ref sk, .ref ch, .ref ln, tx_loaded, tx_version, tx_loadedFile, .ref trA, .ref tsA, .int (nI L.length), tx_reach, .ref deA, .ref goA, tx_waits])), (ch, .inr (1, [ch_at, .ref cpA, ch_file, ch_firstLine, ch_adds, ch_files])), (ln, .inr (4, [ln_at, ln_length, .ref lcA, ln_place, .ref luA, .ref ldA, ln_ofFile, ln_total])), (sk, .inr (9, [sk_bytes, sk_from, sk_firstDependency, sk_firstChange, sk_dependencies, sk_hashes, sk_byHash, .ref loA, .ref lbA, sk_changes, sk_lines, sk_patches])), (cpA, .inl (cI, 38000, .inl Z.cp)), (lcA, .inl (cI, 4000, .inl S.lc)), (tsA, .inl (cI, 4000, .inl sl)), (loA, .inl (cL, 4000, .inr (.inl S.lo))), (lbA, .inl (cL, 4000, .inr (.inl S.lb))), (deA, .inl (cL, 3200, .inr (.inl de)))] H := hP
              have hD : va_D A [(luA, .inl (cI, 4000, .inl S.lu)), (ldA, .inl (cI, 4000, .inl S.ld)), (trA, .inl (cI, 400, .inl rw9)), (goA, .inl (cI, 400, .inl go)), (h, .inr (10, [tx_order, tx_length, tx_size, tx_unsure, .int (nI ((cnt (sB S L GG DD PT) i) + 1)), .int (nI (cnt (dB L GG) i)), .ref sk, .ref ch, .ref ln, tx_loaded, tx_version, tx_loadedFile, .ref trA, .ref tsA, .int (nI L.length), tx_reach, .ref deA, .ref goA, tx_waits])), (ch, .inr (1, [ch_at, .ref cpA, ch_file, ch_firstLine, ch_adds, ch_files])), (ln, .inr (4, [ln_at, ln_length, .ref lcA, ln_place, .ref luA, .ref ldA, ln_ofFile, ln_total])), (sk, .inr (9, [sk_bytes, sk_from, sk_firstDependency, sk_firstChange, sk_dependencies, sk_hashes, sk_byHash, .ref loA, .ref lbA, sk_changes, sk_lines, sk_patches])), (cpA, .inl (cI, 38000, .inl Z.cp)), (lcA, .inl (cI, 4000, .inl S.lc)), (tsA, .inl (cI, 4000, .inl sl)), (loA, .inl (cL, 4000, .inr (.inl S.lo))), (lbA, .inl (cL, 4000, .inr (.inl S.lb))), (deA, .inl (cL, 3200, .inr (.inl de)))] := hD
              rw [show nI (cnt (dB L GG) i) = nI (cnt (dB L GG) (i + 1)) from congrArg nI (cnt_no hdB), show nI ((cnt (sB S L GG DD PT) i) + 1) = nI (cnt (sB S L GG DD PT) (i + 1)) from congrArg nI (cnt_yes hsB)] at hP hD
              refine lv_iinc (v := nI (i + 1)) (lv' := [(1, .int (nI (i + 1))), (2, .int (nI (L.getD i 0))), (0, .ref h)]) hx hb d_Tx_countDeadAndStranded_93 hl (k := 2) rfl (by exact nI_add _ _) (by decide) rfl (fun ls hl => ?_)
              refine lv_goto (tgt := 12) hx hb d_Tx_countDeadAndStranded_96 (by decide) ?_
              exact ih_12 (i + 1) _ _ _ (by omega) (by omega) (hP.sub [4, 5, 6, 7, 8, 9, 10, 11, 12, 13, 0, 1, 2, 3] rfl) (hD.sub [4, 5, 6, 7, 8, 9, 10, 11, 12, 13, 0, 1, 2, 3] (by decide) rfl) hS (lv_sub hl [2, 0] rfl)
            · skip
              refine lv_if_eq (tgt := 93) hx hb d_Tx_countDeadAndStranded_80 (by decide) (fun _ => ?_) (fun c_80 => absurd (by decide) c_80)
              have hsB : ¬ (sB S L GG DD PT) i = true := fun z => (sB_iff.mp z).2.elim hlup hldn
              rw [show nI (cnt (dB L GG) i) = nI (cnt (dB L GG) (i + 1)) from congrArg nI (cnt_no hdB), show nI (cnt (sB S L GG DD PT) i) = nI (cnt (sB S L GG DD PT) (i + 1)) from congrArg nI (cnt_no hsB)] at hP hD
              refine lv_iinc (v := nI (i + 1)) (lv' := [(1, .int (nI (i + 1))), (2, .int (nI (L.getD i 0))), (0, .ref h)]) hx hb d_Tx_countDeadAndStranded_93 hl (k := 2) rfl (by exact nI_add _ _) (by decide) rfl (fun ls hl => ?_)
              refine lv_goto (tgt := 12) hx hb d_Tx_countDeadAndStranded_96 (by decide) ?_
              exact ih_12 (i + 1) _ _ _ (by omega) (by omega) (hP.sub [4, 5, 6, 7, 8, 9, 10, 11, 12, 13, 0, 1, 2, 3] rfl) (hD.sub [4, 5, 6, 7, 8, 9, 10, 11, 12, 13, 0, 1, 2, 3] (by decide) rfl) hS (lv_sub hl [2, 0] rfl)
        · have hgg : GG (L.getD i 0) := (hgR i n_17).elim (fun z => z.2) (fun z => absurd z.1 c_33)
          have hdB : (dB L GG) i = true := dB_iff.mpr hgg
          have hsB : ¬ (sB S L GG DD PT) i = true := fun z => (sB_iff.mp z).1 hgg
          refine lv_aload_n hx hb d_Tx_countDeadAndStranded_36 rfl (lv_at hl 1 rfl) ?_
          refine lv_dup hx hb d_Tx_countDeadAndStranded_37 rfl ?_
          refine va_get (D := (dC, dI)) (ci := 10) (v := .int (nI (cnt (dB L GG) i))) (C := R_Tx) (T := F_Tx) (N := 19) hx hb hts i_Tx hown hK hP 0 rfl rfl 5 (by decide) (hts _ gw_386) (fun _ h9 => h9) rfl d_Tx_countDeadAndStranded_38 ?_
          refine lv_iconst (v := 1) hx hb d_Tx_countDeadAndStranded_41 (by decide) ?_
          refine lv_iadd hx hb d_Tx_countDeadAndStranded_42 ?_
          refine lv_topi (fun x_4 ex_4 => ?_)
          obtain rfl : x_4 = nI ((cnt (dB L GG) i) + 1) := by rw [ex_4]; first | done | (exact nI_add _ _)
          refine va_put (D := (dC, dI)) (ci := 10) (v := .int (nI ((cnt (dB L GG) i) + 1))) (ty := .int) (C := R_Tx) (T := F_Tx) (N := 19) hx hb hts i_Tx t_Tx t_Tx_ok n_Tx hown hK hP hD hS 0 rfl rfl 5 (by decide) (hts _ gw_386) (fun _ h9 => h9) rfl (by decide +kernel) rfl rfl (Nat.le_of_ble_eq_true rfl) d_Tx_countDeadAndStranded_43 (fun H locs hP hD hS => ?_)
          have hP : va_P (dC, dI) classes [(h, .inr (10, [tx_order, tx_length, tx_size, tx_unsure, .int (nI (cnt (sB S L GG DD PT) i)), .int (nI ((cnt (dB L GG) i) + 1)), .ref sk, .ref ch, .ref ln, tx_loaded, tx_version, tx_loadedFile, .ref trA, .ref tsA, .int (nI L.length), tx_reach, .ref deA, .ref goA, tx_waits])), (ch, .inr (1, [ch_at, .ref cpA, ch_file, ch_firstLine, ch_adds, ch_files])), (ln, .inr (4, [ln_at, ln_length, .ref lcA, ln_place, .ref luA, .ref ldA, ln_ofFile, ln_total])), (sk, .inr (9, [sk_bytes, sk_from, sk_firstDependency, sk_firstChange, sk_dependencies, sk_hashes, sk_byHash, .ref loA, .ref lbA, sk_changes, sk_lines, sk_patches])), (cpA, .inl (cI, 38000, .inl Z.cp)), (lcA, .inl (cI, 4000, .inl S.lc)), (tsA, .inl (cI, 4000, .inl sl)), (loA, .inl (cL, 4000, .inr (.inl S.lo))), (lbA, .inl (cL, 4000, .inr (.inl S.lb))), (deA, .inl (cL, 3200, .inr (.inl de))), (luA, .inl (cI, 4000, .inl S.lu)), (ldA, .inl (cI, 4000, .inl S.ld)), (trA, .inl (cI, 400, .inl rw9)), (goA, .inl (cI, 400, .inl go))] H := hP
          have hD : va_D A [(h, .inr (10, [tx_order, tx_length, tx_size, tx_unsure, .int (nI (cnt (sB S L GG DD PT) i)), .int (nI ((cnt (dB L GG) i) + 1)), .ref sk, .ref ch, .ref ln, tx_loaded, tx_version, tx_loadedFile, .ref trA, .ref tsA, .int (nI L.length), tx_reach, .ref deA, .ref goA, tx_waits])), (ch, .inr (1, [ch_at, .ref cpA, ch_file, ch_firstLine, ch_adds, ch_files])), (ln, .inr (4, [ln_at, ln_length, .ref lcA, ln_place, .ref luA, .ref ldA, ln_ofFile, ln_total])), (sk, .inr (9, [sk_bytes, sk_from, sk_firstDependency, sk_firstChange, sk_dependencies, sk_hashes, sk_byHash, .ref loA, .ref lbA, sk_changes, sk_lines, sk_patches])), (cpA, .inl (cI, 38000, .inl Z.cp)), (lcA, .inl (cI, 4000, .inl S.lc)), (tsA, .inl (cI, 4000, .inl sl)), (loA, .inl (cL, 4000, .inr (.inl S.lo))), (lbA, .inl (cL, 4000, .inr (.inl S.lb))), (deA, .inl (cL, 3200, .inr (.inl de))), (luA, .inl (cI, 4000, .inl S.lu)), (ldA, .inl (cI, 4000, .inl S.ld)), (trA, .inl (cI, 400, .inl rw9)), (goA, .inl (cI, 400, .inl go))] := hD
          refine lv_goto (tgt := 93) hx hb d_Tx_countDeadAndStranded_46 (by decide) ?_
          rw [show nI ((cnt (dB L GG) i) + 1) = nI (cnt (dB L GG) (i + 1)) from congrArg nI (cnt_yes hdB), show nI (cnt (sB S L GG DD PT) i) = nI (cnt (sB S L GG DD PT) (i + 1)) from congrArg nI (cnt_no hsB)] at hP hD
          refine lv_iinc (v := nI (i + 1)) (lv' := [(1, .int (nI (i + 1))), (2, .int (nI (L.getD i 0))), (0, .ref h)]) hx hb d_Tx_countDeadAndStranded_93 hl (k := 2) rfl (by exact nI_add _ _) (by decide) rfl (fun ls hl => ?_)
          refine lv_goto (tgt := 12) hx hb d_Tx_countDeadAndStranded_96 (by decide) ?_
          exact ih_12 (i + 1) _ _ _ (by omega) (by omega) hP hD hS (lv_sub hl [2, 0] rfl)
  exact loop_12 _ 0 _ _ _ (Nat.lt_succ_self _) (Nat.zero_le _) hP hD hS (lv_sub hl [1, 0] rfl)
