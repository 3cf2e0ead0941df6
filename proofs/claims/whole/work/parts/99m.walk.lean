/-! 99m.walk.lean.txt -/
theorem gw_24 : (Jvm.Cond.initialized "java/lang/Math") ∈ xg_1 := xg_s1 24 rfl rfl
theorem gw_483 : (Jvm.Cond.fieldLink "PatchStore$Recording" (138 : Nat) "PatchStore$Recording" "deletedTotal" "I") ∈ xg_1 := xg_s3 3 rfl rfl
theorem gw_486 : (Jvm.Cond.fieldLink "PatchStore$Recording" (141 : Nat) "PatchStore$Recording" "keptTotal" "I") ∈ xg_1 := xg_s3 6 rfl rfl
theorem gw_1161 : (Jvm.Cond.methodLink "PatchStore$Recording" (132 : Nat) ({ cls := "java/lang/Math", name := "max", desc := "(II)I" } : Jvm.MethodName)) ∈ xg_1 := xg_s5 201 rfl rfl
theorem gw_1162 : (Jvm.Cond.static ({ cls := "java/lang/Math", name := "max", desc := "(II)I" } : Jvm.MethodName)) ∈ xg_1 := xg_s5 202 rfl rfl
theorem gw_1163 : (Jvm.Cond.code ({ cls := "java/lang/Math", name := "max", desc := "(II)I" } : Jvm.MethodName) prog_27_method_65_code (2 : Nat) (Option.some Jvm.ClassFile.FieldType.int)) ∈ xg_1 := xg_s5 203 rfl rfl
def y_Rc_measureCommon : MethodName := ⟨"PatchStore$Recording", "measureCommon", "()V"⟩
abbrev c_Rc_measureCommon : Cond := (Jvm.Cond.code ({ cls := "PatchStore$Recording", name := "measureCommon", desc := "()V" } : Jvm.MethodName) prog_7_method_10_code (4 : Nat) (Option.none : Option Jvm.ClassFile.FieldType))
abbrev ws_Rc_measureCommon : List Cond := c_Rc_measureCommon :: xg_1
theorem d_Rc_measureCommon_0 : decode prog_7_method_10_code 0 = .ok (.iconst 0, 1) := by decide +kernel
theorem d_Rc_measureCommon_1 : decode prog_7_method_10_code 1 = .ok (.istore_n 1, 1) := by decide +kernel
theorem d_Rc_measureCommon_2 : decode prog_7_method_10_code 2 = .ok (.iload_n 1, 1) := by decide +kernel
theorem d_Rc_measureCommon_3 : decode prog_7_method_10_code 3 = .ok (.aload_n 0, 1) := by decide +kernel
theorem d_Rc_measureCommon_4 : decode prog_7_method_10_code 4 = .ok (.getfield 53, 3) := by decide +kernel
theorem d_Rc_measureCommon_7 : decode prog_7_method_10_code 7 = .ok (.if_icmp .gt 25, 3) := by decide +kernel
theorem d_Rc_measureCommon_10 : decode prog_7_method_10_code 10 = .ok (.aload_n 0, 1) := by decide +kernel
theorem d_Rc_measureCommon_11 : decode prog_7_method_10_code 11 = .ok (.getfield 25, 3) := by decide +kernel
theorem d_Rc_measureCommon_14 : decode prog_7_method_10_code 14 = .ok (.aload_n 0, 1) := by decide +kernel
theorem d_Rc_measureCommon_15 : decode prog_7_method_10_code 15 = .ok (.getfield 65, 3) := by decide +kernel
theorem d_Rc_measureCommon_18 : decode prog_7_method_10_code 18 = .ok (.sipush 201, 3) := by decide +kernel
theorem d_Rc_measureCommon_21 : decode prog_7_method_10_code 21 = .ok (.imul, 1) := by decide +kernel
theorem d_Rc_measureCommon_22 : decode prog_7_method_10_code 22 = .ok (.iload_n 1, 1) := by decide +kernel
theorem d_Rc_measureCommon_23 : decode prog_7_method_10_code 23 = .ok (.iadd, 1) := by decide +kernel
theorem d_Rc_measureCommon_24 : decode prog_7_method_10_code 24 = .ok (.iconst 0, 1) := by decide +kernel
theorem d_Rc_measureCommon_25 : decode prog_7_method_10_code 25 = .ok (.iastore, 1) := by decide +kernel
theorem d_Rc_measureCommon_26 : decode prog_7_method_10_code 26 = .ok (.iinc 1 1, 3) := by decide +kernel
theorem d_Rc_measureCommon_29 : decode prog_7_method_10_code 29 = .ok (.goto (-27), 3) := by decide +kernel
theorem d_Rc_measureCommon_32 : decode prog_7_method_10_code 32 = .ok (.aload_n 0, 1) := by decide +kernel
theorem d_Rc_measureCommon_33 : decode prog_7_method_10_code 33 = .ok (.getfield 65, 3) := by decide +kernel
theorem d_Rc_measureCommon_36 : decode prog_7_method_10_code 36 = .ok (.iconst 1, 1) := by decide +kernel
theorem d_Rc_measureCommon_37 : decode prog_7_method_10_code 37 = .ok (.isub, 1) := by decide +kernel
theorem d_Rc_measureCommon_38 : decode prog_7_method_10_code 38 = .ok (.istore_n 1, 1) := by decide +kernel
theorem d_Rc_measureCommon_39 : decode prog_7_method_10_code 39 = .ok (.iload_n 1, 1) := by decide +kernel
theorem d_Rc_measureCommon_40 : decode prog_7_method_10_code 40 = .ok (.ifCond .lt 124, 3) := by decide +kernel
theorem d_Rc_measureCommon_43 : decode prog_7_method_10_code 43 = .ok (.iload_n 1, 1) := by decide +kernel
theorem d_Rc_measureCommon_44 : decode prog_7_method_10_code 44 = .ok (.sipush 201, 3) := by decide +kernel
theorem d_Rc_measureCommon_47 : decode prog_7_method_10_code 47 = .ok (.imul, 1) := by decide +kernel
theorem d_Rc_measureCommon_48 : decode prog_7_method_10_code 48 = .ok (.istore_n 2, 1) := by decide +kernel
theorem d_Rc_measureCommon_49 : decode prog_7_method_10_code 49 = .ok (.aload_n 0, 1) := by decide +kernel
theorem d_Rc_measureCommon_50 : decode prog_7_method_10_code 50 = .ok (.getfield 25, 3) := by decide +kernel
theorem d_Rc_measureCommon_53 : decode prog_7_method_10_code 53 = .ok (.iload_n 2, 1) := by decide +kernel
theorem d_Rc_measureCommon_54 : decode prog_7_method_10_code 54 = .ok (.aload_n 0, 1) := by decide +kernel
theorem d_Rc_measureCommon_55 : decode prog_7_method_10_code 55 = .ok (.getfield 53, 3) := by decide +kernel
theorem d_Rc_measureCommon_58 : decode prog_7_method_10_code 58 = .ok (.iadd, 1) := by decide +kernel
theorem d_Rc_measureCommon_59 : decode prog_7_method_10_code 59 = .ok (.iconst 0, 1) := by decide +kernel
theorem d_Rc_measureCommon_60 : decode prog_7_method_10_code 60 = .ok (.iastore, 1) := by decide +kernel
theorem d_Rc_measureCommon_61 : decode prog_7_method_10_code 61 = .ok (.aload_n 0, 1) := by decide +kernel
theorem d_Rc_measureCommon_62 : decode prog_7_method_10_code 62 = .ok (.getfield 53, 3) := by decide +kernel
theorem d_Rc_measureCommon_65 : decode prog_7_method_10_code 65 = .ok (.iconst 1, 1) := by decide +kernel
theorem d_Rc_measureCommon_66 : decode prog_7_method_10_code 66 = .ok (.isub, 1) := by decide +kernel
theorem d_Rc_measureCommon_67 : decode prog_7_method_10_code 67 = .ok (.istore_n 3, 1) := by decide +kernel
theorem d_Rc_measureCommon_68 : decode prog_7_method_10_code 68 = .ok (.iload_n 3, 1) := by decide +kernel
theorem d_Rc_measureCommon_69 : decode prog_7_method_10_code 69 = .ok (.ifCond .lt 89, 3) := by decide +kernel
theorem d_Rc_measureCommon_72 : decode prog_7_method_10_code 72 = .ok (.aload_n 0, 1) := by decide +kernel
theorem d_Rc_measureCommon_73 : decode prog_7_method_10_code 73 = .ok (.getfield 18, 3) := by decide +kernel
theorem d_Rc_measureCommon_76 : decode prog_7_method_10_code 76 = .ok (.iload_n 1, 1) := by decide +kernel
theorem d_Rc_measureCommon_77 : decode prog_7_method_10_code 77 = .ok (.iaload, 1) := by decide +kernel
theorem d_Rc_measureCommon_78 : decode prog_7_method_10_code 78 = .ok (.aload_n 0, 1) := by decide +kernel
theorem d_Rc_measureCommon_79 : decode prog_7_method_10_code 79 = .ok (.getfield 18, 3) := by decide +kernel
theorem d_Rc_measureCommon_82 : decode prog_7_method_10_code 82 = .ok (.aload_n 0, 1) := by decide +kernel
theorem d_Rc_measureCommon_83 : decode prog_7_method_10_code 83 = .ok (.getfield 65, 3) := by decide +kernel
theorem d_Rc_measureCommon_86 : decode prog_7_method_10_code 86 = .ok (.iload_n 3, 1) := by decide +kernel
theorem d_Rc_measureCommon_87 : decode prog_7_method_10_code 87 = .ok (.iadd, 1) := by decide +kernel
theorem d_Rc_measureCommon_88 : decode prog_7_method_10_code 88 = .ok (.iaload, 1) := by decide +kernel
theorem d_Rc_measureCommon_89 : decode prog_7_method_10_code 89 = .ok (.if_icmp .ne 30, 3) := by decide +kernel
theorem d_Rc_measureCommon_92 : decode prog_7_method_10_code 92 = .ok (.aload_n 0, 1) := by decide +kernel
theorem d_Rc_measureCommon_93 : decode prog_7_method_10_code 93 = .ok (.getfield 25, 3) := by decide +kernel
theorem d_Rc_measureCommon_96 : decode prog_7_method_10_code 96 = .ok (.iload_n 2, 1) := by decide +kernel
theorem d_Rc_measureCommon_97 : decode prog_7_method_10_code 97 = .ok (.iload_n 3, 1) := by decide +kernel
theorem d_Rc_measureCommon_98 : decode prog_7_method_10_code 98 = .ok (.iadd, 1) := by decide +kernel
theorem d_Rc_measureCommon_99 : decode prog_7_method_10_code 99 = .ok (.aload_n 0, 1) := by decide +kernel
theorem d_Rc_measureCommon_100 : decode prog_7_method_10_code 100 = .ok (.getfield 25, 3) := by decide +kernel
theorem d_Rc_measureCommon_103 : decode prog_7_method_10_code 103 = .ok (.iload_n 2, 1) := by decide +kernel
theorem d_Rc_measureCommon_104 : decode prog_7_method_10_code 104 = .ok (.sipush 201, 3) := by decide +kernel
theorem d_Rc_measureCommon_107 : decode prog_7_method_10_code 107 = .ok (.iadd, 1) := by decide +kernel
theorem d_Rc_measureCommon_108 : decode prog_7_method_10_code 108 = .ok (.iload_n 3, 1) := by decide +kernel
theorem d_Rc_measureCommon_109 : decode prog_7_method_10_code 109 = .ok (.iadd, 1) := by decide +kernel
theorem d_Rc_measureCommon_110 : decode prog_7_method_10_code 110 = .ok (.iconst 1, 1) := by decide +kernel
theorem d_Rc_measureCommon_111 : decode prog_7_method_10_code 111 = .ok (.iadd, 1) := by decide +kernel
theorem d_Rc_measureCommon_112 : decode prog_7_method_10_code 112 = .ok (.iaload, 1) := by decide +kernel
theorem d_Rc_measureCommon_113 : decode prog_7_method_10_code 113 = .ok (.iconst 1, 1) := by decide +kernel
theorem d_Rc_measureCommon_114 : decode prog_7_method_10_code 114 = .ok (.iadd, 1) := by decide +kernel
theorem d_Rc_measureCommon_115 : decode prog_7_method_10_code 115 = .ok (.iastore, 1) := by decide +kernel
theorem d_Rc_measureCommon_116 : decode prog_7_method_10_code 116 = .ok (.goto 36, 3) := by decide +kernel
theorem d_Rc_measureCommon_119 : decode prog_7_method_10_code 119 = .ok (.aload_n 0, 1) := by decide +kernel
theorem d_Rc_measureCommon_120 : decode prog_7_method_10_code 120 = .ok (.getfield 25, 3) := by decide +kernel
theorem d_Rc_measureCommon_123 : decode prog_7_method_10_code 123 = .ok (.iload_n 2, 1) := by decide +kernel
theorem d_Rc_measureCommon_124 : decode prog_7_method_10_code 124 = .ok (.iload_n 3, 1) := by decide +kernel
theorem d_Rc_measureCommon_125 : decode prog_7_method_10_code 125 = .ok (.iadd, 1) := by decide +kernel
theorem d_Rc_measureCommon_126 : decode prog_7_method_10_code 126 = .ok (.aload_n 0, 1) := by decide +kernel
theorem d_Rc_measureCommon_127 : decode prog_7_method_10_code 127 = .ok (.getfield 25, 3) := by decide +kernel
theorem d_Rc_measureCommon_130 : decode prog_7_method_10_code 130 = .ok (.iload_n 2, 1) := by decide +kernel
theorem d_Rc_measureCommon_131 : decode prog_7_method_10_code 131 = .ok (.sipush 201, 3) := by decide +kernel
theorem d_Rc_measureCommon_134 : decode prog_7_method_10_code 134 = .ok (.iadd, 1) := by decide +kernel
theorem d_Rc_measureCommon_135 : decode prog_7_method_10_code 135 = .ok (.iload_n 3, 1) := by decide +kernel
theorem d_Rc_measureCommon_136 : decode prog_7_method_10_code 136 = .ok (.iadd, 1) := by decide +kernel
theorem d_Rc_measureCommon_137 : decode prog_7_method_10_code 137 = .ok (.iaload, 1) := by decide +kernel
theorem d_Rc_measureCommon_138 : decode prog_7_method_10_code 138 = .ok (.aload_n 0, 1) := by decide +kernel
theorem d_Rc_measureCommon_139 : decode prog_7_method_10_code 139 = .ok (.getfield 25, 3) := by decide +kernel
theorem d_Rc_measureCommon_142 : decode prog_7_method_10_code 142 = .ok (.iload_n 2, 1) := by decide +kernel
theorem d_Rc_measureCommon_143 : decode prog_7_method_10_code 143 = .ok (.iload_n 3, 1) := by decide +kernel
theorem d_Rc_measureCommon_144 : decode prog_7_method_10_code 144 = .ok (.iadd, 1) := by decide +kernel
theorem d_Rc_measureCommon_145 : decode prog_7_method_10_code 145 = .ok (.iconst 1, 1) := by decide +kernel
theorem d_Rc_measureCommon_146 : decode prog_7_method_10_code 146 = .ok (.iadd, 1) := by decide +kernel
theorem d_Rc_measureCommon_147 : decode prog_7_method_10_code 147 = .ok (.iaload, 1) := by decide +kernel
theorem d_Rc_measureCommon_148 : decode prog_7_method_10_code 148 = .ok (.invokestatic 132, 3) := by decide +kernel
theorem d_Rc_measureCommon_151 : decode prog_7_method_10_code 151 = .ok (.iastore, 1) := by decide +kernel
theorem d_Rc_measureCommon_152 : decode prog_7_method_10_code 152 = .ok (.iinc 3 (-1), 3) := by decide +kernel
theorem d_Rc_measureCommon_155 : decode prog_7_method_10_code 155 = .ok (.goto (-87), 3) := by decide +kernel
theorem d_Rc_measureCommon_158 : decode prog_7_method_10_code 158 = .ok (.iinc 1 (-1), 3) := by decide +kernel
theorem d_Rc_measureCommon_161 : decode prog_7_method_10_code 161 = .ok (.goto (-122), 3) := by decide +kernel
theorem d_Rc_measureCommon_164 : decode prog_7_method_10_code 164 = .ok (.return_, 1) := by decide +kernel
def y_Rc_walk : MethodName := ⟨"PatchStore$Recording", "walk", "()V"⟩
abbrev c_Rc_walk : Cond := (Jvm.Cond.code ({ cls := "PatchStore$Recording", name := "walk", desc := "()V" } : Jvm.MethodName) prog_7_method_11_code (6 : Nat) (Option.none : Option Jvm.ClassFile.FieldType))
abbrev ws_Rc_walk : List Cond := c_Rc_walk :: xg_1
theorem d_Rc_walk_0 : decode prog_7_method_11_code 0 = .ok (.aload_n 0, 1) := by decide +kernel
theorem d_Rc_walk_1 : decode prog_7_method_11_code 1 = .ok (.iconst 0, 1) := by decide +kernel
theorem d_Rc_walk_2 : decode prog_7_method_11_code 2 = .ok (.putfield 138, 3) := by decide +kernel
theorem d_Rc_walk_5 : decode prog_7_method_11_code 5 = .ok (.aload_n 0, 1) := by decide +kernel
theorem d_Rc_walk_6 : decode prog_7_method_11_code 6 = .ok (.iconst 0, 1) := by decide +kernel
theorem d_Rc_walk_7 : decode prog_7_method_11_code 7 = .ok (.putfield 141, 3) := by decide +kernel
theorem d_Rc_walk_10 : decode prog_7_method_11_code 10 = .ok (.iconst 0, 1) := by decide +kernel
theorem d_Rc_walk_11 : decode prog_7_method_11_code 11 = .ok (.istore_n 1, 1) := by decide +kernel
theorem d_Rc_walk_12 : decode prog_7_method_11_code 12 = .ok (.iconst 0, 1) := by decide +kernel
theorem d_Rc_walk_13 : decode prog_7_method_11_code 13 = .ok (.istore_n 2, 1) := by decide +kernel
theorem d_Rc_walk_14 : decode prog_7_method_11_code 14 = .ok (.iconst 0, 1) := by decide +kernel
theorem d_Rc_walk_15 : decode prog_7_method_11_code 15 = .ok (.istore_n 3, 1) := by decide +kernel
theorem d_Rc_walk_16 : decode prog_7_method_11_code 16 = .ok (.iload_n 3, 1) := by decide +kernel
theorem d_Rc_walk_17 : decode prog_7_method_11_code 17 = .ok (.aload_n 0, 1) := by decide +kernel
theorem d_Rc_walk_18 : decode prog_7_method_11_code 18 = .ok (.getfield 65, 3) := by decide +kernel
theorem d_Rc_walk_21 : decode prog_7_method_11_code 21 = .ok (.aload_n 0, 1) := by decide +kernel
theorem d_Rc_walk_22 : decode prog_7_method_11_code 22 = .ok (.getfield 53, 3) := by decide +kernel
theorem d_Rc_walk_25 : decode prog_7_method_11_code 25 = .ok (.iadd, 1) := by decide +kernel
theorem d_Rc_walk_26 : decode prog_7_method_11_code 26 = .ok (.if_icmp .ge 199, 3) := by decide +kernel
theorem d_Rc_walk_29 : decode prog_7_method_11_code 29 = .ok (.iload_n 1, 1) := by decide +kernel
theorem d_Rc_walk_30 : decode prog_7_method_11_code 30 = .ok (.aload_n 0, 1) := by decide +kernel
theorem d_Rc_walk_31 : decode prog_7_method_11_code 31 = .ok (.getfield 65, 3) := by decide +kernel
theorem d_Rc_walk_34 : decode prog_7_method_11_code 34 = .ok (.if_icmp .ge 7, 3) := by decide +kernel
theorem d_Rc_walk_37 : decode prog_7_method_11_code 37 = .ok (.iconst 1, 1) := by decide +kernel
theorem d_Rc_walk_38 : decode prog_7_method_11_code 38 = .ok (.goto 4, 3) := by decide +kernel
theorem d_Rc_walk_41 : decode prog_7_method_11_code 41 = .ok (.iconst 0, 1) := by decide +kernel
theorem d_Rc_walk_42 : decode prog_7_method_11_code 42 = .ok (.istore 4, 2) := by decide +kernel
theorem d_Rc_walk_44 : decode prog_7_method_11_code 44 = .ok (.iload_n 2, 1) := by decide +kernel
theorem d_Rc_walk_45 : decode prog_7_method_11_code 45 = .ok (.aload_n 0, 1) := by decide +kernel
theorem d_Rc_walk_46 : decode prog_7_method_11_code 46 = .ok (.getfield 53, 3) := by decide +kernel
theorem d_Rc_walk_49 : decode prog_7_method_11_code 49 = .ok (.if_icmp .ge 7, 3) := by decide +kernel
theorem d_Rc_walk_52 : decode prog_7_method_11_code 52 = .ok (.iconst 1, 1) := by decide +kernel
theorem d_Rc_walk_53 : decode prog_7_method_11_code 53 = .ok (.goto 4, 3) := by decide +kernel
theorem d_Rc_walk_56 : decode prog_7_method_11_code 56 = .ok (.iconst 0, 1) := by decide +kernel
theorem d_Rc_walk_57 : decode prog_7_method_11_code 57 = .ok (.istore 5, 2) := by decide +kernel
theorem d_Rc_walk_59 : decode prog_7_method_11_code 59 = .ok (.iload 4, 2) := by decide +kernel
theorem d_Rc_walk_61 : decode prog_7_method_11_code 61 = .ok (.ifCond .eq 75, 3) := by decide +kernel
theorem d_Rc_walk_64 : decode prog_7_method_11_code 64 = .ok (.iload 5, 2) := by decide +kernel
theorem d_Rc_walk_66 : decode prog_7_method_11_code 66 = .ok (.ifCond .eq 70, 3) := by decide +kernel
theorem d_Rc_walk_69 : decode prog_7_method_11_code 69 = .ok (.aload_n 0, 1) := by decide +kernel
theorem d_Rc_walk_70 : decode prog_7_method_11_code 70 = .ok (.getfield 18, 3) := by decide +kernel
theorem d_Rc_walk_73 : decode prog_7_method_11_code 73 = .ok (.iload_n 1, 1) := by decide +kernel
theorem d_Rc_walk_74 : decode prog_7_method_11_code 74 = .ok (.iaload, 1) := by decide +kernel
theorem d_Rc_walk_75 : decode prog_7_method_11_code 75 = .ok (.aload_n 0, 1) := by decide +kernel
theorem d_Rc_walk_76 : decode prog_7_method_11_code 76 = .ok (.getfield 18, 3) := by decide +kernel
theorem d_Rc_walk_79 : decode prog_7_method_11_code 79 = .ok (.aload_n 0, 1) := by decide +kernel
theorem d_Rc_walk_80 : decode prog_7_method_11_code 80 = .ok (.getfield 65, 3) := by decide +kernel
theorem d_Rc_walk_83 : decode prog_7_method_11_code 83 = .ok (.iload_n 2, 1) := by decide +kernel
theorem d_Rc_walk_84 : decode prog_7_method_11_code 84 = .ok (.iadd, 1) := by decide +kernel
theorem d_Rc_walk_85 : decode prog_7_method_11_code 85 = .ok (.iaload, 1) := by decide +kernel
theorem d_Rc_walk_86 : decode prog_7_method_11_code 86 = .ok (.if_icmp .ne 50, 3) := by decide +kernel
theorem d_Rc_walk_89 : decode prog_7_method_11_code 89 = .ok (.aload_n 0, 1) := by decide +kernel
theorem d_Rc_walk_90 : decode prog_7_method_11_code 90 = .ok (.getfield 31, 3) := by decide +kernel
theorem d_Rc_walk_93 : decode prog_7_method_11_code 93 = .ok (.aload_n 0, 1) := by decide +kernel
theorem d_Rc_walk_94 : decode prog_7_method_11_code 94 = .ok (.getfield 141, 3) := by decide +kernel
theorem d_Rc_walk_97 : decode prog_7_method_11_code 97 = .ok (.aload_n 0, 1) := by decide +kernel
theorem d_Rc_walk_98 : decode prog_7_method_11_code 98 = .ok (.getfield 41, 3) := by decide +kernel
theorem d_Rc_walk_101 : decode prog_7_method_11_code 101 = .ok (.getfield 109, 3) := by decide +kernel
theorem d_Rc_walk_104 : decode prog_7_method_11_code 104 = .ok (.iload_n 1, 1) := by decide +kernel
theorem d_Rc_walk_105 : decode prog_7_method_11_code 105 = .ok (.iaload, 1) := by decide +kernel
theorem d_Rc_walk_106 : decode prog_7_method_11_code 106 = .ok (.iastore, 1) := by decide +kernel
theorem d_Rc_walk_107 : decode prog_7_method_11_code 107 = .ok (.aload_n 0, 1) := by decide +kernel
theorem d_Rc_walk_108 : decode prog_7_method_11_code 108 = .ok (.getfield 34, 3) := by decide +kernel
theorem d_Rc_walk_111 : decode prog_7_method_11_code 111 = .ok (.aload_n 0, 1) := by decide +kernel
theorem d_Rc_walk_112 : decode prog_7_method_11_code 112 = .ok (.getfield 141, 3) := by decide +kernel
theorem d_Rc_walk_115 : decode prog_7_method_11_code 115 = .ok (.iload_n 2, 1) := by decide +kernel
theorem d_Rc_walk_116 : decode prog_7_method_11_code 116 = .ok (.iastore, 1) := by decide +kernel
theorem d_Rc_walk_117 : decode prog_7_method_11_code 117 = .ok (.aload_n 0, 1) := by decide +kernel
theorem d_Rc_walk_118 : decode prog_7_method_11_code 118 = .ok (.dup, 1) := by decide +kernel
theorem d_Rc_walk_119 : decode prog_7_method_11_code 119 = .ok (.getfield 141, 3) := by decide +kernel
theorem d_Rc_walk_122 : decode prog_7_method_11_code 122 = .ok (.iconst 1, 1) := by decide +kernel
theorem d_Rc_walk_123 : decode prog_7_method_11_code 123 = .ok (.iadd, 1) := by decide +kernel
theorem d_Rc_walk_124 : decode prog_7_method_11_code 124 = .ok (.putfield 141, 3) := by decide +kernel
theorem d_Rc_walk_127 : decode prog_7_method_11_code 127 = .ok (.iinc 1 1, 3) := by decide +kernel
theorem d_Rc_walk_130 : decode prog_7_method_11_code 130 = .ok (.iinc 2 1, 3) := by decide +kernel
theorem d_Rc_walk_133 : decode prog_7_method_11_code 133 = .ok (.goto 86, 3) := by decide +kernel
theorem d_Rc_walk_136 : decode prog_7_method_11_code 136 = .ok (.iload 4, 2) := by decide +kernel
theorem d_Rc_walk_138 : decode prog_7_method_11_code 138 = .ok (.ifCond .eq 73, 3) := by decide +kernel
theorem d_Rc_walk_141 : decode prog_7_method_11_code 141 = .ok (.iload 5, 2) := by decide +kernel
theorem d_Rc_walk_143 : decode prog_7_method_11_code 143 = .ok (.ifCond .eq 34, 3) := by decide +kernel
theorem d_Rc_walk_146 : decode prog_7_method_11_code 146 = .ok (.aload_n 0, 1) := by decide +kernel
theorem d_Rc_walk_147 : decode prog_7_method_11_code 147 = .ok (.getfield 25, 3) := by decide +kernel
theorem d_Rc_walk_150 : decode prog_7_method_11_code 150 = .ok (.iload_n 1, 1) := by decide +kernel
theorem d_Rc_walk_151 : decode prog_7_method_11_code 151 = .ok (.iconst 1, 1) := by decide +kernel
theorem d_Rc_walk_152 : decode prog_7_method_11_code 152 = .ok (.iadd, 1) := by decide +kernel
theorem d_Rc_walk_153 : decode prog_7_method_11_code 153 = .ok (.sipush 201, 3) := by decide +kernel
theorem d_Rc_walk_156 : decode prog_7_method_11_code 156 = .ok (.imul, 1) := by decide +kernel
theorem d_Rc_walk_157 : decode prog_7_method_11_code 157 = .ok (.iload_n 2, 1) := by decide +kernel
theorem d_Rc_walk_158 : decode prog_7_method_11_code 158 = .ok (.iadd, 1) := by decide +kernel
theorem d_Rc_walk_159 : decode prog_7_method_11_code 159 = .ok (.iaload, 1) := by decide +kernel
theorem d_Rc_walk_160 : decode prog_7_method_11_code 160 = .ok (.aload_n 0, 1) := by decide +kernel
theorem d_Rc_walk_161 : decode prog_7_method_11_code 161 = .ok (.getfield 25, 3) := by decide +kernel
theorem d_Rc_walk_164 : decode prog_7_method_11_code 164 = .ok (.iload_n 1, 1) := by decide +kernel
theorem d_Rc_walk_165 : decode prog_7_method_11_code 165 = .ok (.sipush 201, 3) := by decide +kernel
theorem d_Rc_walk_168 : decode prog_7_method_11_code 168 = .ok (.imul, 1) := by decide +kernel
theorem d_Rc_walk_169 : decode prog_7_method_11_code 169 = .ok (.iload_n 2, 1) := by decide +kernel
theorem d_Rc_walk_170 : decode prog_7_method_11_code 170 = .ok (.iadd, 1) := by decide +kernel
theorem d_Rc_walk_171 : decode prog_7_method_11_code 171 = .ok (.iconst 1, 1) := by decide +kernel
theorem d_Rc_walk_172 : decode prog_7_method_11_code 172 = .ok (.iadd, 1) := by decide +kernel
theorem d_Rc_walk_173 : decode prog_7_method_11_code 173 = .ok (.iaload, 1) := by decide +kernel
theorem d_Rc_walk_174 : decode prog_7_method_11_code 174 = .ok (.if_icmp .lt 37, 3) := by decide +kernel
theorem d_Rc_walk_177 : decode prog_7_method_11_code 177 = .ok (.aload_n 0, 1) := by decide +kernel
theorem d_Rc_walk_178 : decode prog_7_method_11_code 178 = .ok (.getfield 28, 3) := by decide +kernel
theorem d_Rc_walk_181 : decode prog_7_method_11_code 181 = .ok (.aload_n 0, 1) := by decide +kernel
theorem d_Rc_walk_182 : decode prog_7_method_11_code 182 = .ok (.getfield 138, 3) := by decide +kernel
theorem d_Rc_walk_185 : decode prog_7_method_11_code 185 = .ok (.aload_n 0, 1) := by decide +kernel
theorem d_Rc_walk_186 : decode prog_7_method_11_code 186 = .ok (.getfield 41, 3) := by decide +kernel
theorem d_Rc_walk_189 : decode prog_7_method_11_code 189 = .ok (.getfield 109, 3) := by decide +kernel
theorem d_Rc_walk_192 : decode prog_7_method_11_code 192 = .ok (.iload_n 1, 1) := by decide +kernel
theorem d_Rc_walk_193 : decode prog_7_method_11_code 193 = .ok (.iaload, 1) := by decide +kernel
theorem d_Rc_walk_194 : decode prog_7_method_11_code 194 = .ok (.iastore, 1) := by decide +kernel
theorem d_Rc_walk_195 : decode prog_7_method_11_code 195 = .ok (.aload_n 0, 1) := by decide +kernel
theorem d_Rc_walk_196 : decode prog_7_method_11_code 196 = .ok (.dup, 1) := by decide +kernel
theorem d_Rc_walk_197 : decode prog_7_method_11_code 197 = .ok (.getfield 138, 3) := by decide +kernel
theorem d_Rc_walk_200 : decode prog_7_method_11_code 200 = .ok (.iconst 1, 1) := by decide +kernel
theorem d_Rc_walk_201 : decode prog_7_method_11_code 201 = .ok (.iadd, 1) := by decide +kernel
theorem d_Rc_walk_202 : decode prog_7_method_11_code 202 = .ok (.putfield 138, 3) := by decide +kernel
theorem d_Rc_walk_205 : decode prog_7_method_11_code 205 = .ok (.iinc 1 1, 3) := by decide +kernel
theorem d_Rc_walk_208 : decode prog_7_method_11_code 208 = .ok (.goto 11, 3) := by decide +kernel
theorem d_Rc_walk_211 : decode prog_7_method_11_code 211 = .ok (.iload 5, 2) := by decide +kernel
theorem d_Rc_walk_213 : decode prog_7_method_11_code 213 = .ok (.ifCond .eq 6, 3) := by decide +kernel
theorem d_Rc_walk_216 : decode prog_7_method_11_code 216 = .ok (.iinc 2 1, 3) := by decide +kernel
theorem d_Rc_walk_219 : decode prog_7_method_11_code 219 = .ok (.iinc 3 1, 3) := by decide +kernel
theorem d_Rc_walk_222 : decode prog_7_method_11_code 222 = .ok (.goto (-206), 3) := by decide +kernel
theorem d_Rc_walk_225 : decode prog_7_method_11_code 225 = .ok (.return_, 1) := by decide +kernel
/-- one row of the common lines: prev is the row below it -/
def lcc (prev : Nat → Nat) (e : Nat → Bool) : Nat → Nat
  | 0 => 0
  | b + 1 => if e b = true then prev b + 1 else max (prev (b + 1)) (lcc prev e b)
def lcr (E : Nat → Nat → Bool) (no nt : Nat) : Nat → Nat → Nat
  | 0 => fun _ => 0
  | a + 1 => lcc (lcr E no nt a) (fun b => E (no - (a + 1)) (nt - (b + 1)))
/-- how many lines the ends from i and from j have in common -/
def lcM (E : Nat → Nat → Bool) (no nt i j : Nat) : Nat := lcr E no nt (no - i) (nt - j)
theorem lcM_o (E : Nat → Nat → Bool) (no nt j : Nat) : lcM E no nt no j = 0 := by
  unfold lcM
  rw [Nat.sub_self]; rfl
theorem lcM_n (E : Nat → Nat → Bool) (no nt i : Nat) : lcM E no nt i nt = 0 := by
  unfold lcM
  rw [Nat.sub_self]
  cases no - i with
  | zero => rfl
  | succ a => rfl
theorem lcM_u {E : Nat → Nat → Bool} {no nt i j : Nat} (hi : i < no) (hj : j < nt) : lcM E no nt i j = if E i j = true then lcM E no nt (i + 1) (j + 1) + 1 else max (lcM E no nt (i + 1) j) (lcM E no nt i (j + 1)) := by
  unfold lcM
  have ha : no - i = (no - (i + 1)) + 1 := by omega
  have hb : nt - j = (nt - (j + 1)) + 1 := by omega
  rw [ha, hb]
  show (if E (no - (no - (i + 1) + 1)) (nt - (nt - (j + 1) + 1)) = true then lcr E no nt (no - (i + 1)) (nt - (j + 1)) + 1 else max (lcr E no nt (no - (i + 1)) (nt - (j + 1) + 1)) (lcc (lcr E no nt (no - (i + 1))) (fun b => E (no - (no - (i + 1) + 1)) (nt - (b + 1))) (nt - (j + 1)))) = _
  rw [show no - (no - (i + 1) + 1) = i by omega, show nt - (nt - (j + 1) + 1) = j by omega]
  show _ = if E i j = true then lcr E no nt (no - (i + 1)) (nt - (j + 1)) + 1 else max (lcr E no nt (no - (i + 1)) (nt - (j + 1) + 1)) (lcc (lcr E no nt (no - (i + 1))) (fun b => E (no - (no - (i + 1) + 1)) (nt - (b + 1))) (nt - (j + 1)))
  rw [show no - (no - (i + 1) + 1) = i by omega]
theorem lcM_e {E : Nat → Nat → Bool} {no nt i j : Nat} (hi : i < no) (hj : j < nt) (h : E i j = true) : lcM E no nt i j = lcM E no nt (i + 1) (j + 1) + 1 := by
  rw [lcM_u hi hj, if_pos h]
theorem lcM_d {E : Nat → Nat → Bool} {no nt i j : Nat} (hi : i < no) (hj : j < nt) (h : ¬ E i j = true) : lcM E no nt i j = max (lcM E no nt (i + 1) j) (lcM E no nt i (j + 1)) := by
  rw [lcM_u hi hj, if_neg h]
theorem lcc_le {prev : Nat → Nat} (e : Nat → Bool) (h : ∀ b, prev b ≤ b) : ∀ b, lcc prev e b ≤ b
  | 0 => Nat.le_refl _
  | b + 1 => by
    show (if e b = true then prev b + 1 else max (prev (b + 1)) (lcc prev e b)) ≤ b + 1
    have h1 := h b
    have h2 := h (b + 1)
    have h3 := lcc_le e h b
    by_cases z : e b = true
    · rw [if_pos z]; omega
    · rw [if_neg z]; omega
theorem lcr_le (E : Nat → Nat → Bool) (no nt : Nat) : ∀ a b, lcr E no nt a b ≤ b
  | 0 => fun b => Nat.zero_le _
  | a + 1 => lcc_le _ (lcr_le E no nt a)
theorem lcM_le (E : Nat → Nat → Bool) (no nt i j : Nat) : lcM E no nt i j ≤ nt := Nat.le_trans (lcr_le E no nt _ _) (Nat.sub_le _ _)
/-- the rows from i0 on hold the common lines -/
def cmR (E : Nat → Nat → Bool) (no nt : Nat) (cm : Nat → Int32) (i0 : Nat) : Prop := ∀ i, i0 ≤ i → i ≤ no → ∀ j, j ≤ nt → cm (i * 201 + j) = nI (lcM E no nt i j)
def cmQ (E : Nat → Nat → Bool) (no nt : Nat) (cm : Nat → Int32) (q k : Nat) : Prop := ∀ j, k ≤ j → j ≤ nt → cm (q * 201 + j) = nI (lcM E no nt q j)
theorem cmR.upd {E : Nat → Nat → Bool} {no nt : Nat} {cm : Nat → Int32} {q k : Nat} {v : Int32} (h : cmR E no nt cm (q + 1)) (hk : k ≤ 200) : cmR E no nt (upd cm (q * 201 + k) v) (q + 1) := by
  intro i hi hi2 j hj
  rw [upd_ne _ (by omega)]
  exact h i hi hi2 j hj
theorem cmQ.step {E : Nat → Nat → Bool} {no nt : Nat} {cm : Nat → Int32} {q k : Nat} {v : Int32} (h : cmQ E no nt cm q (k + 1)) (hv : v = nI (lcM E no nt q k)) : cmQ E no nt (upd cm (q * 201 + k) v) q k := by
  intro j hj hj2
  by_cases e : j = k
  · rw [e, upd_eq]; exact hv
  · rw [upd_ne _ (by omega)]
    exact h j (by omega) hj2
theorem cmR.row {E : Nat → Nat → Bool} {no nt : Nat} {cm : Nat → Int32} {q : Nat} (h : cmR E no nt cm (q + 1)) (h2 : cmQ E no nt cm q 0) : cmR E no nt cm q := by
  intro i hi hi2 j hj
  by_cases e : i = q
  · rw [e]; exact h2 j (Nat.zero_le _) hj
  · exact h i (by omega) hi2 j hj
/-- how far the walk is: old lines, new lines, the kept pairs, the deleted ones -/
def wk1 (E : Nat → Nat → Bool) (no nt : Nat) (s : Nat × Nat × List (Nat × Nat) × List Nat) : Nat × Nat × List (Nat × Nat) × List Nat :=
  if s.1 < no ∧ s.2.1 < nt ∧ E s.1 s.2.1 = true then (s.1 + 1, s.2.1 + 1, s.2.2.1 ++ [(s.1, s.2.1)], s.2.2.2)
  else if s.1 < no ∧ (¬ s.2.1 < nt ∨ lcM E no nt s.1 (s.2.1 + 1) ≤ lcM E no nt (s.1 + 1) s.2.1) then (s.1 + 1, s.2.1, s.2.2.1, s.2.2.2 ++ [s.1])
  else if s.2.1 < nt then (s.1, s.2.1 + 1, s.2.2.1, s.2.2.2) else s
def wkS (E : Nat → Nat → Bool) (no nt : Nat) : Nat → Nat × Nat × List (Nat × Nat) × List Nat
  | 0 => (0, 0, [], [])
  | k + 1 => wk1 E no nt (wkS E no nt k)
def wkI (E : Nat → Nat → Bool) (no nt k : Nat) : Nat := (wkS E no nt k).1
def wkJ (E : Nat → Nat → Bool) (no nt k : Nat) : Nat := (wkS E no nt k).2.1
def wkK (E : Nat → Nat → Bool) (no nt k : Nat) : List (Nat × Nat) := (wkS E no nt k).2.2.1
def wkD (E : Nat → Nat → Bool) (no nt k : Nat) : List Nat := (wkS E no nt k).2.2.2
def wkL (E : Nat → Nat → Bool) (no nt k : Nat) : Nat := (wkK E no nt k).length
def wkM (E : Nat → Nat → Bool) (no nt k : Nat) : Nat := (wkD E no nt k).length
theorem wk_e {E : Nat → Nat → Bool} {no nt k : Nat} (h1 : wkI E no nt k < no) (h2 : wkJ E no nt k < nt) (h3 : E (wkI E no nt k) (wkJ E no nt k) = true) : wkI E no nt (k + 1) = wkI E no nt k + 1 ∧ wkJ E no nt (k + 1) = wkJ E no nt k + 1 ∧ wkK E no nt (k + 1) = wkK E no nt k ++ [(wkI E no nt k, wkJ E no nt k)] ∧ wkD E no nt (k + 1) = wkD E no nt k := by
  have e : wkS E no nt (k + 1) = (wkI E no nt k + 1, wkJ E no nt k + 1, wkK E no nt k ++ [(wkI E no nt k, wkJ E no nt k)], wkD E no nt k) := if_pos ⟨h1, h2, h3⟩
  refine ⟨?_, ?_, ?_, ?_⟩
  · exact congrArg (fun z => z.1) e
  · exact congrArg (fun z => z.2.1) e
  · exact congrArg (fun z => z.2.2.1) e
  · exact congrArg (fun z => z.2.2.2) e
theorem wk_d {E : Nat → Nat → Bool} {no nt k : Nat} (h1 : wkI E no nt k < no) (h2 : ¬ (wkJ E no nt k < nt ∧ E (wkI E no nt k) (wkJ E no nt k) = true)) (h3 : ¬ wkJ E no nt k < nt ∨ lcM E no nt (wkI E no nt k) (wkJ E no nt k + 1) ≤ lcM E no nt (wkI E no nt k + 1) (wkJ E no nt k)) : wkI E no nt (k + 1) = wkI E no nt k + 1 ∧ wkJ E no nt (k + 1) = wkJ E no nt k ∧ wkK E no nt (k + 1) = wkK E no nt k ∧ wkD E no nt (k + 1) = wkD E no nt k ++ [wkI E no nt k] := by
  have e : wkS E no nt (k + 1) = (wkI E no nt k + 1, wkJ E no nt k, wkK E no nt k, wkD E no nt k ++ [wkI E no nt k]) := (if_neg (fun z => h2 z.2)).trans (if_pos ⟨h1, h3⟩)
  refine ⟨?_, ?_, ?_, ?_⟩
  · exact congrArg (fun z => z.1) e
  · exact congrArg (fun z => z.2.1) e
  · exact congrArg (fun z => z.2.2.1) e
  · exact congrArg (fun z => z.2.2.2) e
theorem wk_n {E : Nat → Nat → Bool} {no nt k : Nat} (h1 : ¬ (wkI E no nt k < no ∧ E (wkI E no nt k) (wkJ E no nt k) = true)) (h2 : ¬ (wkI E no nt k < no ∧ (¬ wkJ E no nt k < nt ∨ lcM E no nt (wkI E no nt k) (wkJ E no nt k + 1) ≤ lcM E no nt (wkI E no nt k + 1) (wkJ E no nt k)))) (h3 : wkJ E no nt k < nt) : wkI E no nt (k + 1) = wkI E no nt k ∧ wkJ E no nt (k + 1) = wkJ E no nt k + 1 ∧ wkK E no nt (k + 1) = wkK E no nt k ∧ wkD E no nt (k + 1) = wkD E no nt k := by
  have e : wkS E no nt (k + 1) = (wkI E no nt k, wkJ E no nt k + 1, wkK E no nt k, wkD E no nt k) := (if_neg (fun z => h1 ⟨z.1, z.2.2⟩)).trans ((if_neg h2).trans (if_pos h3))
  refine ⟨?_, ?_, ?_, ?_⟩
  · exact congrArg (fun z => z.1) e
  · exact congrArg (fun z => z.2.1) e
  · exact congrArg (fun z => z.2.2.1) e
  · exact congrArg (fun z => z.2.2.2) e
theorem wk_z {E : Nat → Nat → Bool} {no nt k : Nat} (h1 : ¬ wkI E no nt k < no) (h3 : ¬ wkJ E no nt k < nt) : wkS E no nt (k + 1) = wkS E no nt k := (if_neg (fun z => h1 z.1)).trans ((if_neg (fun z => h1 z.1)).trans (if_neg h3))
theorem wk_zz {E : Nat → Nat → Bool} {no nt k : Nat} (h1 : ¬ wkI E no nt k < no) (h3 : ¬ wkJ E no nt k < nt) : wkI E no nt (k + 1) = wkI E no nt k ∧ wkJ E no nt (k + 1) = wkJ E no nt k ∧ wkK E no nt (k + 1) = wkK E no nt k ∧ wkD E no nt (k + 1) = wkD E no nt k := by
  have e := wk_z h1 h3
  refine ⟨?_, ?_, ?_, ?_⟩
  · exact congrArg (fun z => z.1) e
  · exact congrArg (fun z => z.2.1) e
  · exact congrArg (fun z => z.2.2.1) e
  · exact congrArg (fun z => z.2.2.2) e
/-- a step is one of four -/
theorem wk_cases (E : Nat → Nat → Bool) (no nt k : Nat) :
    (wkI E no nt k < no ∧ wkJ E no nt k < nt ∧ wkI E no nt (k + 1) = wkI E no nt k + 1 ∧ wkJ E no nt (k + 1) = wkJ E no nt k + 1 ∧ wkK E no nt (k + 1) = wkK E no nt k ++ [(wkI E no nt k, wkJ E no nt k)] ∧ wkD E no nt (k + 1) = wkD E no nt k)
    ∨ (wkI E no nt k < no ∧ wkI E no nt (k + 1) = wkI E no nt k + 1 ∧ wkJ E no nt (k + 1) = wkJ E no nt k ∧ wkK E no nt (k + 1) = wkK E no nt k ∧ wkD E no nt (k + 1) = wkD E no nt k ++ [wkI E no nt k])
    ∨ (wkJ E no nt k < nt ∧ wkI E no nt (k + 1) = wkI E no nt k ∧ wkJ E no nt (k + 1) = wkJ E no nt k + 1 ∧ wkK E no nt (k + 1) = wkK E no nt k ∧ wkD E no nt (k + 1) = wkD E no nt k)
    ∨ (¬ wkI E no nt k < no ∧ ¬ wkJ E no nt k < nt ∧ wkI E no nt (k + 1) = wkI E no nt k ∧ wkJ E no nt (k + 1) = wkJ E no nt k ∧ wkK E no nt (k + 1) = wkK E no nt k ∧ wkD E no nt (k + 1) = wkD E no nt k) := by
  by_cases h1 : wkI E no nt k < no
  · by_cases h2 : wkJ E no nt k < nt
    · by_cases h3 : E (wkI E no nt k) (wkJ E no nt k) = true
      · exact Or.inl ⟨h1, h2, wk_e h1 h2 h3⟩
      · by_cases h4 : lcM E no nt (wkI E no nt k) (wkJ E no nt k + 1) ≤ lcM E no nt (wkI E no nt k + 1) (wkJ E no nt k)
        · exact Or.inr (Or.inl ⟨h1, wk_d h1 (fun z => h3 z.2) (Or.inr h4)⟩)
        · exact Or.inr (Or.inr (Or.inl ⟨h2, wk_n (fun z => h3 z.2) (fun z => z.2.elim (fun y => y h2) h4) h2⟩))
    · exact Or.inr (Or.inl ⟨h1, wk_d h1 (fun z => h2 z.1) (Or.inl h2)⟩)
  · by_cases h2 : wkJ E no nt k < nt
    · exact Or.inr (Or.inr (Or.inl ⟨h2, wk_n (fun z => h1 z.1) (fun z => h1 z.1) h2⟩))
    · exact Or.inr (Or.inr (Or.inr ⟨h1, h2, wk_zz h1 h2⟩))
/-- what holds of the walk -/
def wkV (E : Nat → Nat → Bool) (no nt k : Nat) : Prop := wkI E no nt k ≤ no ∧ wkJ E no nt k ≤ nt ∧ wkL E no nt k + wkM E no nt k = wkI E no nt k ∧ wkL E no nt k ≤ wkJ E no nt k ∧ (k ≤ wkI E no nt k + wkJ E no nt k ∨ (wkI E no nt k = no ∧ wkJ E no nt k = nt)) ∧ (∀ x, x ∈ wkK E no nt k → x.1 < wkI E no nt k ∧ x.2 < wkJ E no nt k) ∧ (∀ x, x ∈ wkD E no nt k → x < wkI E no nt k)
theorem wkV_all (E : Nat → Nat → Bool) (no nt : Nat) : ∀ k, wkV E no nt k
  | 0 => ⟨Nat.zero_le _, Nat.zero_le _, rfl, Nat.le_refl _, Or.inl (Nat.zero_le _), (fun x h => by cases h), (fun x h => by cases h)⟩
  | k + 1 => by
    obtain ⟨v1, v2, v3, v4, v5, v6, v7⟩ := wkV_all E no nt k
    unfold wkL wkM at v3
    unfold wkL at v4
    unfold wkV wkL wkM
    rcases wk_cases E no nt k with ⟨h1, h2, e1, e2, e3, e4⟩ | ⟨h1, e1, e2, e3, e4⟩ | ⟨h1, e1, e2, e3, e4⟩ | ⟨h1, h2, e1, e2, e3, e4⟩
    · rw [e1, e2, e3, e4, List.length_append]
      refine ⟨by omega, by omega, ?_, ?_, by omega, ?_, ?_⟩
      · show (wkK E no nt k).length + 1 + _ = _; omega
      · show (wkK E no nt k).length + 1 ≤ _; omega
      · intro x hx
        rcases List.mem_append.mp hx with z | z
        · have := v6 x z; omega
        · rw [List.mem_singleton.mp z]; exact ⟨Nat.lt_succ_self _, Nat.lt_succ_self _⟩
      · intro x hx
        have := v7 x hx; omega
    · rw [e1, e2, e3, e4, List.length_append]
      refine ⟨by omega, by omega, ?_, by omega, by omega, ?_, ?_⟩
      · show _ + ((wkD E no nt k).length + 1) = _; omega
      · intro x hx
        have := v6 x hx; omega
      · intro x hx
        rcases List.mem_append.mp hx with z | z
        · have := v7 x z; omega
        · rw [List.mem_singleton.mp z]; exact Nat.lt_succ_self _
    · rw [e1, e2, e3, e4]
      refine ⟨by omega, by omega, by omega, by omega, by omega, ?_, v7⟩
      intro x hx
      have := v6 x hx; omega
    · rw [e1, e2, e3, e4]
      exact ⟨v1, v2, v3, v4, Or.inr ⟨by omega, by omega⟩, v6, v7⟩
/-- behind its end the walk stands -/
theorem wk_stay {E : Nat → Nat → Bool} {no nt k : Nat} (h1 : wkI E no nt k = no) (h2 : wkJ E no nt k = nt) : ∀ j, wkS E no nt (k + j) = wkS E no nt k
  | 0 => rfl
  | j + 1 => by
    have ih := wk_stay h1 h2 j
    have e1 : wkI E no nt (k + j) = no := (congrArg (fun z => z.1) ih).trans h1
    have e2 : wkJ E no nt (k + j) = nt := (congrArg (fun z => z.2.1) ih).trans h2
    exact (wk_z (k := k + j) (by omega) (by omega)).trans ih
theorem arrL.pushF {A : Nat → Int32} {L : List Nat} {n : Nat} (x : Nat) (h : arrL A L) (hn : n = L.length) : arrL (upd A n (nI x)) (L ++ [x]) := by
  rw [hn]; exact h.push x
theorem mx_eq {a b : Nat} (ha : a < 2147483648) (hb : b < 2147483648) : (if nI a < nI b then nI b else nI a) = nI (max a b) := by
  by_cases h : a < b
  · rw [if_pos ((nI_ltI ha hb).mpr h), Nat.max_eq_right (Nat.le_of_lt h)]
  · rw [if_neg (fun z => h ((nI_ltI ha hb).mp z)), Nat.max_eq_left (by omega)]
theorem mn_eq {a b : Nat} (ha : a < 2147483648) (hb : b < 2147483648) : (if nI b < nI a then nI b else nI a) = nI (min a b) := by
  by_cases h : b < a
  · rw [if_pos ((nI_ltI hb ha).mpr h), Nat.min_eq_right (Nat.le_of_lt h)]
  · rw [if_neg (fun z => h ((nI_ltI hb ha).mp z)), Nat.min_eq_left (by omega)]
set_option maxHeartbeats 4000000 in
set_option maxRecDepth 100000 in
/-- the lines in common are measured -/
theorem m_Rc_measure (l : Launch) (dC : Nat → ClassId) (dI : Nat → Nat → Nat) (cI cB cL cZ cR : ClassId) (h soA cmA : Nat) (rc_stock rc_text rc_maker rc_tape rc_file rc_newAt rc_newLength rc_sums rc_deleted rc_deletedTotal rc_kept rc_keptNew rc_keptTotal : Value) (so cm : Nat → Int32) (E : Nat → Nat → Bool) (no nt : Nat) (sz : Nat) (hno : no ≤ 200) (hnt : nt ≤ 200) (hE : ∀ i j, i < no → j < nt → (so i = so (no + j) ↔ E i j = true)) : Met l y_Rc_measureCommon ws_Rc_measureCommon ({ frames := 1, cells := 0, slots := 0, locals := 60 }) (xw_Pc dC dI [(cI, .int), (cB, .byte), (cL, .long), (cZ, .boolean), (cR, .object "PatchStore$Repository")] [.ref h] [(h, .inr (6, [.int (nI nt), rc_stock, rc_text, rc_maker, rc_tape, .int (nI no), rc_file, rc_newAt, rc_newLength, .ref soA, rc_sums, .ref cmA, rc_deleted, rc_deletedTotal, rc_kept, rc_keptNew, rc_keptTotal])), (soA, .inl (cI, 400, .inl so)), (cmA, .inl (cI, 40401, .inl cm))] sz) (va_Qv (fun u : Nat → Int32 => cmR E no nt u 0) (fun u t => xw_B dC dI [(cI, .int), (cB, .byte), (cL, .long), (cZ, .boolean), (cR, .object "PatchStore$Repository")] (va_A [(h, .inr (6, [.int (nI nt), rc_stock, rc_text, rc_maker, rc_tape, .int (nI no), rc_file, rc_newAt, rc_newLength, .ref soA, rc_sums, .ref cmA, rc_deleted, rc_deletedTotal, rc_kept, rc_keptNew, rc_keptTotal])), (soA, .inl (cI, 400, .inl so)), (cmA, .inl (cI, 40401, .inl cm))] sz) [(h, .inr (6, [.int (nI nt), rc_stock, rc_text, rc_maker, rc_tape, .int (nI no), rc_file, rc_newAt, rc_newLength, .ref soA, rc_sums, .ref cmA, rc_deleted, rc_deletedTotal, rc_kept, rc_keptNew, rc_keptTotal])), (soA, .inl (cI, 400, .inl so)), (cmA, .inl (cI, 40401, .inl u))] t) (va_A [(h, .inr (6, [.int (nI nt), rc_stock, rc_text, rc_maker, rc_tape, .int (nI no), rc_file, rc_newAt, rc_newLength, .ref soA, rc_sums, .ref cmA, rc_deleted, rc_deletedTotal, rc_kept, rc_keptNew, rc_keptTotal])), (soA, .inl (cI, 400, .inl so)), (cmA, .inl (cI, 40401, .inl cm))] sz)) 0 0 (va_A [(h, .inr (6, [.int (nI nt), rc_stock, rc_text, rc_maker, rc_tape, .int (nI no), rc_file, rc_newAt, rc_newLength, .ref soA, rc_sums, .ref cmA, rc_deleted, rc_deletedTotal, rc_kept, rc_keptNew, rc_keptTotal])), (soA, .inl (cI, 400, .inl so)), (cmA, .inl (cI, 40401, .inl cm))] sz) := by
  refine Met.ofW (cc := prog_7_method_10_code) (maxL := 4) (ret := none) (by decide) rfl ?_
  intro p e s m args below meth c s₁ B hml hv
  obtain ⟨rfl, hsz, hP, hK, hD0⟩ := hv
  have hx := B.exec
  have hb := B.bytes
  have hr := B.returns
  have hts0 := atoms_spec (ws := ws_Rc_measureCommon) B.pre
  have hts : ∀ w ∈ xg_1, w.before _ s = true := fun w h => hts0 w (List.mem_cons_of_mem _ h)
  have hown : s.vm.findClass "PatchStore$Recording" = some m.cls := findClass_of_methodNamed B.named
  have hlocks := B.notSynchronized
  subst hsz
  have hD := hD0.self (sz := s.heap.size)
  generalize hAe : va_A [(h, .inr (6, [.int (nI nt), rc_stock, rc_text, rc_maker, rc_tape, .int (nI no), rc_file, rc_newAt, rc_newLength, .ref soA, rc_sums, .ref cmA, rc_deleted, rc_deletedTotal, rc_kept, rc_keptNew, rc_keptTotal])), (soA, .inl (cI, 400, .inl so)), (cmA, .inl (cI, 40401, .inl cm))] s.heap.size = A at hD ⊢
  have hA : ∀ q : Nat, s.heap.size ≤ q → A q := fun q h => by rw [← hAe]; exact Or.inr h
  have hS : va_S A s.heap s.heap [] := va_S.rf
  have hl := lv_entry ([.ref h]) (n := 4) (Nat.le_of_ble_eq_true rfl)
  rw [lg_entry_eq]
  generalize (lg_sl ([.ref h]) ++ List.replicate (4 - (lg_sl ([.ref h])).length) Slot.unset).toArray = ls at hl ⊢
  have hl : lv_has ls 4 [(0, .ref h)] := hl
  generalize hQe : MQ _ _ _ _ _ _ _ = Q
  refine lv_iconst (v := 0) hx hb d_Rc_measureCommon_0 (by decide) ?_
  refine lv_istore_n (lv' := [(1, .int 0), (0, .ref h)]) hx hb d_Rc_measureCommon_1 rfl hl (by decide) rfl (fun ls hl => ?_)
  have loop_2 : ∀ (n9 : Nat) (k : Nat) (cmu : Nat → Int32) (H : Heap) (locs : List Loc) (ls : Array Slot), nt + 1 - k < n9 → (k ≤ nt + 1) → (∀ j, j < k → cmu (no * 201 + j) = nI 0) → va_P (dC, dI) classes [(h, .inr (6, [.int (nI nt), rc_stock, rc_text, rc_maker, rc_tape, .int (nI no), rc_file, rc_newAt, rc_newLength, .ref soA, rc_sums, .ref cmA, rc_deleted, rc_deletedTotal, rc_kept, rc_keptNew, rc_keptTotal])), (soA, .inl (cI, 400, .inl so)), (cmA, .inl (cI, 40401, .inl cmu))] H → va_D A [(h, .inr (6, [.int (nI nt), rc_stock, rc_text, rc_maker, rc_tape, .int (nI no), rc_file, rc_newAt, rc_newLength, .ref soA, rc_sums, .ref cmA, rc_deleted, rc_deletedTotal, rc_kept, rc_keptNew, rc_keptTotal])), (soA, .inl (cI, 400, .inl so)), (cmA, .inl (cI, 40401, .inl cmu))] → va_S A s.heap H locs → lv_has ls 4 [(0, .ref h), (1, .int (nI k))] → W p l e (headSpec ws_Rc_measureCommon ({ frames := 1, cells := 0, slots := 0, locals := 60 })).room s m ([.ref h] : List Value).toArray below meth c H locs 0 0 Q (F0 m 2 ls []) := by
    intro n9
    induction n9 with
    | zero => intro k cmu H locs ls hm; exact absurd hm (Nat.not_lt_zero _)
    | succ n9 ih_2 =>
      intro k cmu H locs ls hm hk hk0 hP hD hS hl
      refine lv_iload_n hx hb d_Rc_measureCommon_2 rfl (lv_at hl 1 rfl) ?_
      refine lv_aload_n hx hb d_Rc_measureCommon_3 rfl (lv_at hl 0 rfl) ?_
      refine va_get (D := (dC, dI)) (ci := 6) (v := .int (nI nt)) (C := R_Rc) (T := F_Rc) (N := 17) hx hb hts i_Rc hown hK hP 0 rfl rfl 0 (by decide) (hts _ gw_469) (fun _ h9 => h9) rfl d_Rc_measureCommon_4 ?_
      refine lv_icmp_gt (tgt := 32) hx hb d_Rc_measureCommon_7 (by decide) (fun c_7 => ?_) (fun c_7 => ?_)
      · have n_7 : nt < k := (nI_ltI (a := nt) (b := k) (by omega) (by omega)).mp c_7
        refine lv_aload_n hx hb d_Rc_measureCommon_32 rfl (lv_at hl 0 rfl) ?_
        refine va_get (D := (dC, dI)) (ci := 6) (v := .int (nI no)) (C := R_Rc) (T := F_Rc) (N := 17) hx hb hts i_Rc hown hK hP 0 rfl rfl 5 (by decide) (hts _ gw_475) (fun _ h9 => h9) rfl d_Rc_measureCommon_33 ?_
        refine lv_iconst (v := 1) hx hb d_Rc_measureCommon_36 (by decide) ?_
        refine lv_isub hx hb d_Rc_measureCommon_37 ?_
        refine lv_istore_n (lv' := [(1, .int ((nI no) - 1)), (0, .ref h)]) hx hb d_Rc_measureCommon_38 rfl hl (by decide) rfl (fun ls hl => ?_)
        have loop_39 : ∀ (n9 : Nat) (mm : Nat) (cmv : Nat → Int32) (H : Heap) (locs : List Loc) (ls : Array Slot), mm < n9 → (mm ≤ no) → (cmR E no nt cmv mm) → va_P (dC, dI) classes [(h, .inr (6, [.int (nI nt), rc_stock, rc_text, rc_maker, rc_tape, .int (nI no), rc_file, rc_newAt, rc_newLength, .ref soA, rc_sums, .ref cmA, rc_deleted, rc_deletedTotal, rc_kept, rc_keptNew, rc_keptTotal])), (soA, .inl (cI, 400, .inl so)), (cmA, .inl (cI, 40401, .inl cmv))] H → va_D A [(h, .inr (6, [.int (nI nt), rc_stock, rc_text, rc_maker, rc_tape, .int (nI no), rc_file, rc_newAt, rc_newLength, .ref soA, rc_sums, .ref cmA, rc_deleted, rc_deletedTotal, rc_kept, rc_keptNew, rc_keptTotal])), (soA, .inl (cI, 400, .inl so)), (cmA, .inl (cI, 40401, .inl cmv))] → va_S A s.heap H locs → lv_has ls 4 [(0, .ref h), (1, .int (nI mm - 1))] → W p l e (headSpec ws_Rc_measureCommon ({ frames := 1, cells := 0, slots := 0, locals := 60 })).room s m ([.ref h] : List Value).toArray below meth c H locs 0 0 Q (F0 m 39 ls []) := by
          intro n9
          induction n9 with
          | zero => intro mm cmv H locs ls hm; exact absurd hm (Nat.not_lt_zero _)
          | succ n9 ih_39 =>
            intro mm cmv H locs ls hm hm9 hq1 hP hD hS hl
            refine lv_iload_n hx hb d_Rc_measureCommon_39 rfl (lv_at hl 1 rfl) ?_
            rcases mm with _ | q
            · refine lv_if_lt (tgt := 164) hx hb d_Rc_measureCommon_40 (by decide) (fun _ => ?_) (fun c_40 => absurd (by decide) c_40)
              rw [← hQe]
              exact W.vret hx hb hr (fun t ht hW => ⟨⟨cmv, rfl, hq1, by rw [ht]; exact hP, va_K.moved hW.alike hK, hD⟩, hS.F ht⟩) hS.2.2 d_Rc_measureCommon_164
            · have hqqe : nI (q + 1) - 1 = nI q := nI_subN (a := q + 1) (b := 1) (by omega)
              rw [hqqe] at hl ⊢
              have n_q : q < no := by omega
              refine lv_if_lt (tgt := 164) hx hb d_Rc_measureCommon_40 (by decide) (fun c_40 => absurd c_40 (nI_pos (by omega))) (fun _ => ?_)
              refine lv_iload_n hx hb d_Rc_measureCommon_43 rfl (lv_at hl 1 rfl) ?_
              refine lv_sipush (v := 201) hx hb d_Rc_measureCommon_44 (by decide) ?_
              refine lv_imul hx hb d_Rc_measureCommon_47 ?_
              refine lv_topi (fun x_1 ex_1 => ?_)
              obtain rfl : x_1 = nI (q * 201) := by rw [ex_1]; first | done | (exact nI_mul _ _)
              refine lv_istore_n (lv' := [(2, .int (nI (q * 201))), (0, .ref h), (1, .int (nI q))]) hx hb d_Rc_measureCommon_48 rfl hl (by decide) rfl (fun ls hl => ?_)
              refine lv_aload_n hx hb d_Rc_measureCommon_49 rfl (lv_at hl 1 rfl) ?_
              refine va_get (D := (dC, dI)) (ci := 6) (v := .ref cmA) (C := R_Rc) (T := F_Rc) (N := 17) hx hb hts i_Rc hown hK hP 0 rfl rfl 11 (by decide) (hts _ gw_481) (fun _ h9 => h9) rfl d_Rc_measureCommon_50 ?_
              refine lv_iload_n hx hb d_Rc_measureCommon_53 rfl (lv_at hl 0 rfl) ?_
              refine lv_aload_n hx hb d_Rc_measureCommon_54 rfl (lv_at hl 1 rfl) ?_
              refine va_get (D := (dC, dI)) (ci := 6) (v := .int (nI nt)) (C := R_Rc) (T := F_Rc) (N := 17) hx hb hts i_Rc hown hK hP 0 rfl rfl 0 (by decide) (hts _ gw_469) (fun _ h9 => h9) rfl d_Rc_measureCommon_55 ?_
              refine lv_iadd hx hb d_Rc_measureCommon_58 ?_
              refine lv_topi (fun x_2 ex_2 => ?_)
              obtain rfl : x_2 = nI ((q * 201) + nt) := by rw [ex_2]; first | done | (exact nI_add _ _)
              refine lv_iconst (v := 0) hx hb d_Rc_measureCommon_59 (by decide) ?_
              refine va_iast hx hb hK hP hD hS 2 0 rfl rfl (vp_in_nI (by omega) (by omega)) d_Rc_measureCommon_60 (fun H locs hP hD hS => ?_)
              rw [show (nI ((q * 201) + nt)).toNatClampNeg = ((q * 201) + nt) from nI_clamp (by omega)] at hP hD
              have hP : va_P (dC, dI) classes [(h, .inr (6, [.int (nI nt), rc_stock, rc_text, rc_maker, rc_tape, .int (nI no), rc_file, rc_newAt, rc_newLength, .ref soA, rc_sums, .ref cmA, rc_deleted, rc_deletedTotal, rc_kept, rc_keptNew, rc_keptTotal])), (soA, .inl (cI, 400, .inl so)), (cmA, .inl (cI, 40401, .inl (upd cmv ((q * 201) + nt) 0)))] H := hP
              have hD : va_D A [(h, .inr (6, [.int (nI nt), rc_stock, rc_text, rc_maker, rc_tape, .int (nI no), rc_file, rc_newAt, rc_newLength, .ref soA, rc_sums, .ref cmA, rc_deleted, rc_deletedTotal, rc_kept, rc_keptNew, rc_keptTotal])), (soA, .inl (cI, 400, .inl so)), (cmA, .inl (cI, 40401, .inl (upd cmv ((q * 201) + nt) 0)))] := hD
              refine lv_aload_n hx hb d_Rc_measureCommon_61 rfl (lv_at hl 1 rfl) ?_
              refine va_get (D := (dC, dI)) (ci := 6) (v := .int (nI nt)) (C := R_Rc) (T := F_Rc) (N := 17) hx hb hts i_Rc hown hK hP 0 rfl rfl 0 (by decide) (hts _ gw_469) (fun _ h9 => h9) rfl d_Rc_measureCommon_62 ?_
              refine lv_iconst (v := 1) hx hb d_Rc_measureCommon_65 (by decide) ?_
              refine lv_isub hx hb d_Rc_measureCommon_66 ?_
              refine lv_istore_n (lv' := [(3, .int ((nI nt) - 1)), (2, .int (nI (q * 201))), (0, .ref h), (1, .int (nI q))]) hx hb d_Rc_measureCommon_67 rfl hl (by decide) rfl (fun ls hl => ?_)
              have loop_68 : ∀ (n9 : Nat) (kk : Nat) (cmw : Nat → Int32) (H : Heap) (locs : List Loc) (ls : Array Slot), kk < n9 → (kk ≤ nt) → (cmR E no nt cmw (q + 1)) → (cmQ E no nt cmw q kk) → va_P (dC, dI) classes [(h, .inr (6, [.int (nI nt), rc_stock, rc_text, rc_maker, rc_tape, .int (nI no), rc_file, rc_newAt, rc_newLength, .ref soA, rc_sums, .ref cmA, rc_deleted, rc_deletedTotal, rc_kept, rc_keptNew, rc_keptTotal])), (soA, .inl (cI, 400, .inl so)), (cmA, .inl (cI, 40401, .inl cmw))] H → va_D A [(h, .inr (6, [.int (nI nt), rc_stock, rc_text, rc_maker, rc_tape, .int (nI no), rc_file, rc_newAt, rc_newLength, .ref soA, rc_sums, .ref cmA, rc_deleted, rc_deletedTotal, rc_kept, rc_keptNew, rc_keptTotal])), (soA, .inl (cI, 400, .inl so)), (cmA, .inl (cI, 40401, .inl cmw))] → va_S A s.heap H locs → lv_has ls 4 [(0, .ref h), (1, .int (nI q)), (2, .int (nI (q * 201))), (3, .int (nI kk - 1))] → W p l e (headSpec ws_Rc_measureCommon ({ frames := 1, cells := 0, slots := 0, locals := 60 })).room s m ([.ref h] : List Value).toArray below meth c H locs 0 0 Q (F0 m 68 ls []) := by
                intro n9
                induction n9 with
                | zero => intro kk cmw H locs ls hm; exact absurd hm (Nat.not_lt_zero _)
                | succ n9 ih_68 =>
                  intro kk cmw H locs ls hm hk9 hr1 hr2 hP hD hS hl
                  refine lv_iload_n hx hb d_Rc_measureCommon_68 rfl (lv_at hl 3 rfl) ?_
                  rcases kk with _ | k
                  · refine lv_if_lt (tgt := 158) hx hb d_Rc_measureCommon_69 (by decide) (fun _ => ?_) (fun c_69 => absurd (by decide) c_69)
                    refine lv_iinc (v := nI q - 1) (lv' := [(1, .int (nI q - 1)), (0, .ref h), (2, .int (nI (q * 201))), (3, .int (nI 0 - 1))]) hx hb d_Rc_measureCommon_158 hl (k := 1) rfl (by rw [show Int32.ofInt (-1) = -1 from by decide]; exact (Int32.sub_eq_add_neg _ _).symm) (by decide) rfl (fun ls hl => ?_)
                    refine lv_goto (tgt := 39) hx hb d_Rc_measureCommon_161 (by decide) ?_
                    exact ih_39 q cmw _ _ _ (by omega) (by omega) (hr1.row hr2) hP hD hS (lv_sub hl [1, 0] rfl)
                  · have hkke : nI (k + 1) - 1 = nI k := nI_subN (a := k + 1) (b := 1) (by omega)
                    rw [hkke] at hl ⊢
                    have n_k : k < nt := by omega
                    refine lv_if_lt (tgt := 158) hx hb d_Rc_measureCommon_69 (by decide) (fun c_69 => absurd c_69 (nI_pos (by omega))) (fun _ => ?_)
                    refine lv_aload_n hx hb d_Rc_measureCommon_72 rfl (lv_at hl 0 rfl) ?_
                    refine va_get (D := (dC, dI)) (ci := 6) (v := .ref soA) (C := R_Rc) (T := F_Rc) (N := 17) hx hb hts i_Rc hown hK hP 0 rfl rfl 9 (by decide) (hts _ gw_479) (fun _ h9 => h9) rfl d_Rc_measureCommon_73 ?_
                    refine lv_iload_n hx hb d_Rc_measureCommon_76 rfl (lv_at hl 1 rfl) ?_
                    refine va_iald hx hb hK hP 1 0 rfl rfl (vp_in_nI (by omega) (by omega)) d_Rc_measureCommon_77 ?_
                    rw [show (nI q).toNatClampNeg = q from nI_clamp (by omega)]
                    refine lv_aload_n hx hb d_Rc_measureCommon_78 rfl (lv_at hl 0 rfl) ?_
                    refine va_get (D := (dC, dI)) (ci := 6) (v := .ref soA) (C := R_Rc) (T := F_Rc) (N := 17) hx hb hts i_Rc hown hK hP 0 rfl rfl 9 (by decide) (hts _ gw_479) (fun _ h9 => h9) rfl d_Rc_measureCommon_79 ?_
                    refine lv_aload_n hx hb d_Rc_measureCommon_82 rfl (lv_at hl 0 rfl) ?_
                    refine va_get (D := (dC, dI)) (ci := 6) (v := .int (nI no)) (C := R_Rc) (T := F_Rc) (N := 17) hx hb hts i_Rc hown hK hP 0 rfl rfl 5 (by decide) (hts _ gw_475) (fun _ h9 => h9) rfl d_Rc_measureCommon_83 ?_
                    refine lv_iload_n hx hb d_Rc_measureCommon_86 rfl (lv_at hl 3 rfl) ?_
                    refine lv_iadd hx hb d_Rc_measureCommon_87 ?_
                    refine lv_topi (fun x_3 ex_3 => ?_)
                    obtain rfl : x_3 = nI (no + k) := by rw [ex_3]; first | done | (exact nI_add _ _)
                    refine va_iald hx hb hK hP 1 0 rfl rfl (vp_in_nI (by omega) (by omega)) d_Rc_measureCommon_88 ?_
                    rw [show (nI (no + k)).toNatClampNeg = (no + k) from nI_clamp (by omega)]
                    refine lv_icmp_ne (tgt := 119) hx hb d_Rc_measureCommon_89 (by decide) (fun c_89 => ?_) (fun c_89 => ?_)
                    · refine lv_aload_n hx hb d_Rc_measureCommon_119 rfl (lv_at hl 0 rfl) ?_
                      refine va_get (D := (dC, dI)) (ci := 6) (v := .ref cmA) (C := R_Rc) (T := F_Rc) (N := 17) hx hb hts i_Rc hown hK hP 0 rfl rfl 11 (by decide) (hts _ gw_481) (fun _ h9 => h9) rfl d_Rc_measureCommon_120 ?_
                      refine lv_iload_n hx hb d_Rc_measureCommon_123 rfl (lv_at hl 2 rfl) ?_
                      refine lv_iload_n hx hb d_Rc_measureCommon_124 rfl (lv_at hl 3 rfl) ?_
                      refine lv_iadd hx hb d_Rc_measureCommon_125 ?_
                      refine lv_topi (fun x_4 ex_4 => ?_)
                      obtain rfl : x_4 = nI ((q * 201) + k) := by rw [ex_4]; first | done | (exact nI_add _ _)
                      refine lv_aload_n hx hb d_Rc_measureCommon_126 rfl (lv_at hl 0 rfl) ?_
                      refine va_get (D := (dC, dI)) (ci := 6) (v := .ref cmA) (C := R_Rc) (T := F_Rc) (N := 17) hx hb hts i_Rc hown hK hP 0 rfl rfl 11 (by decide) (hts _ gw_481) (fun _ h9 => h9) rfl d_Rc_measureCommon_127 ?_
                      refine lv_iload_n hx hb d_Rc_measureCommon_130 rfl (lv_at hl 2 rfl) ?_
                      refine lv_sipush (v := 201) hx hb d_Rc_measureCommon_131 (by decide) ?_
                      refine lv_iadd hx hb d_Rc_measureCommon_134 ?_
                      refine lv_topi (fun x_5 ex_5 => ?_)
                      obtain rfl : x_5 = nI ((q * 201) + 201) := by rw [ex_5]; first | done | (exact nI_add _ _)
                      refine lv_iload_n hx hb d_Rc_measureCommon_135 rfl (lv_at hl 3 rfl) ?_
                      refine lv_iadd hx hb d_Rc_measureCommon_136 ?_
                      refine lv_topi (fun x_6 ex_6 => ?_)
                      obtain rfl : x_6 = nI (((q * 201) + 201) + k) := by rw [ex_6]; first | done | (exact nI_add _ _)
                      refine va_iald hx hb hK hP 2 0 rfl rfl (vp_in_nI (by omega) (by omega)) d_Rc_measureCommon_137 ?_
                      rw [show (nI (((q * 201) + 201) + k)).toNatClampNeg = (((q * 201) + 201) + k) from nI_clamp (by omega)]
                      refine lv_topi (fun x_7 ex_7 => ?_)
                      obtain rfl : x_7 = nI (lcM E no nt (q + 1) k) := by rw [ex_7]; first | done | (rw [show q * 201 + 201 + k = (q + 1) * 201 + k by omega]; exact hr1 (q + 1) (Nat.le_refl _) (by omega) k (by omega))
                      refine lv_aload_n hx hb d_Rc_measureCommon_138 rfl (lv_at hl 0 rfl) ?_
                      refine va_get (D := (dC, dI)) (ci := 6) (v := .ref cmA) (C := R_Rc) (T := F_Rc) (N := 17) hx hb hts i_Rc hown hK hP 0 rfl rfl 11 (by decide) (hts _ gw_481) (fun _ h9 => h9) rfl d_Rc_measureCommon_139 ?_
                      refine lv_iload_n hx hb d_Rc_measureCommon_142 rfl (lv_at hl 2 rfl) ?_
                      refine lv_iload_n hx hb d_Rc_measureCommon_143 rfl (lv_at hl 3 rfl) ?_
                      refine lv_iadd hx hb d_Rc_measureCommon_144 ?_
                      refine lv_topi (fun x_8 ex_8 => ?_)
                      obtain rfl : x_8 = nI ((q * 201) + k) := by rw [ex_8]; first | done | (exact nI_add _ _)
                      refine lv_iconst (v := 1) hx hb d_Rc_measureCommon_145 (by decide) ?_
                      refine lv_iadd hx hb d_Rc_measureCommon_146 ?_
                      refine lv_topi (fun x_9 ex_9 => ?_)
                      obtain rfl : x_9 = nI (((q * 201) + k) + 1) := by rw [ex_9]; first | done | (exact nI_add _ _)
                      refine va_iald hx hb hK hP 2 0 rfl rfl (vp_in_nI (by omega) (by omega)) d_Rc_measureCommon_147 ?_
                      rw [show (nI (((q * 201) + k) + 1)).toNatClampNeg = (((q * 201) + k) + 1) from nI_clamp (by omega)]
                      refine lv_topi (fun x_10 ex_10 => ?_)
                      obtain rfl : x_10 = nI (lcM E no nt q (k + 1)) := by rw [ex_10]; first | done | (rw [Nat.add_assoc]; exact hr2 (k + 1) (Nat.le_refl _) (by omega))
                      have hl1 := lcM_le E no nt (q + 1) k
                      have hl2 := lcM_le E no nt q (k + 1)
                      refine va_mmax hx hb (by rw [hml, hl.1]) hown (hts _ gw_1161) (hts _ gw_1162) (hts _ gw_24) (hts _ gw_1163) (Nat.le_of_ble_eq_true rfl) (Nat.le_of_ble_eq_true rfl) (Nat.le_of_ble_eq_true rfl) (Nat.le_of_ble_eq_true rfl) d_Rc_measureCommon_148 ?_
                      refine lv_topi (fun x_11 ex_11 => ?_)
                      obtain rfl : x_11 = nI (max (lcM E no nt (q + 1) k) (lcM E no nt q (k + 1))) := by rw [ex_11]; first | done | (exact mx_eq (by omega) (by omega))
                      refine va_iast hx hb hK hP hD hS 2 0 rfl rfl (vp_in_nI (by omega) (by omega)) d_Rc_measureCommon_151 (fun H locs hP hD hS => ?_)
                      rw [show (nI ((q * 201) + k)).toNatClampNeg = ((q * 201) + k) from nI_clamp (by omega)] at hP hD
                      have hP : va_P (dC, dI) classes [(h, .inr (6, [.int (nI nt), rc_stock, rc_text, rc_maker, rc_tape, .int (nI no), rc_file, rc_newAt, rc_newLength, .ref soA, rc_sums, .ref cmA, rc_deleted, rc_deletedTotal, rc_kept, rc_keptNew, rc_keptTotal])), (soA, .inl (cI, 400, .inl so)), (cmA, .inl (cI, 40401, .inl (upd cmw ((q * 201) + k) (nI (max (lcM E no nt (q + 1) k) (lcM E no nt q (k + 1)))))))] H := hP
                      have hD : va_D A [(h, .inr (6, [.int (nI nt), rc_stock, rc_text, rc_maker, rc_tape, .int (nI no), rc_file, rc_newAt, rc_newLength, .ref soA, rc_sums, .ref cmA, rc_deleted, rc_deletedTotal, rc_kept, rc_keptNew, rc_keptTotal])), (soA, .inl (cI, 400, .inl so)), (cmA, .inl (cI, 40401, .inl (upd cmw ((q * 201) + k) (nI (max (lcM E no nt (q + 1) k) (lcM E no nt q (k + 1)))))))] := hD
                      refine lv_iinc (v := nI k - 1) (lv' := [(3, .int (nI k - 1)), (0, .ref h), (1, .int (nI q)), (2, .int (nI (q * 201)))]) hx hb d_Rc_measureCommon_152 hl (k := 3) rfl (by rw [show Int32.ofInt (-1) = -1 from by decide]; exact (Int32.sub_eq_add_neg _ _).symm) (by decide) rfl (fun ls hl => ?_)
                      refine lv_goto (tgt := 68) hx hb d_Rc_measureCommon_155 (by decide) ?_
                      exact ih_68 k (upd cmw ((q * 201) + k) (nI (max (lcM E no nt (q + 1) k) (lcM E no nt q (k + 1))))) _ _ _ (by omega) (by omega) (hr1.upd (by omega)) (hr2.step (congrArg nI (lcM_d n_q n_k (fun z => c_89 ((hE q k n_q n_k).mpr z))).symm)) hP hD hS (lv_sub hl [1, 2, 3, 0] rfl)
                    · refine lv_aload_n hx hb d_Rc_measureCommon_92 rfl (lv_at hl 0 rfl) ?_
                      refine va_get (D := (dC, dI)) (ci := 6) (v := .ref cmA) (C := R_Rc) (T := F_Rc) (N := 17) hx hb hts i_Rc hown hK hP 0 rfl rfl 11 (by decide) (hts _ gw_481) (fun _ h9 => h9) rfl d_Rc_measureCommon_93 ?_
                      refine lv_iload_n hx hb d_Rc_measureCommon_96 rfl (lv_at hl 2 rfl) ?_
                      refine lv_iload_n hx hb d_Rc_measureCommon_97 rfl (lv_at hl 3 rfl) ?_
                      refine lv_iadd hx hb d_Rc_measureCommon_98 ?_
                      refine lv_topi (fun x_12 ex_12 => ?_)
                      obtain rfl : x_12 = nI ((q * 201) + k) := by rw [ex_12]; first | done | (exact nI_add _ _)
                      refine lv_aload_n hx hb d_Rc_measureCommon_99 rfl (lv_at hl 0 rfl) ?_
                      refine va_get (D := (dC, dI)) (ci := 6) (v := .ref cmA) (C := R_Rc) (T := F_Rc) (N := 17) hx hb hts i_Rc hown hK hP 0 rfl rfl 11 (by decide) (hts _ gw_481) (fun _ h9 => h9) rfl d_Rc_measureCommon_100 ?_
                      refine lv_iload_n hx hb d_Rc_measureCommon_103 rfl (lv_at hl 2 rfl) ?_
                      refine lv_sipush (v := 201) hx hb d_Rc_measureCommon_104 (by decide) ?_
                      refine lv_iadd hx hb d_Rc_measureCommon_107 ?_
                      refine lv_topi (fun x_13 ex_13 => ?_)
                      obtain rfl : x_13 = nI ((q * 201) + 201) := by rw [ex_13]; first | done | (exact nI_add _ _)
                      refine lv_iload_n hx hb d_Rc_measureCommon_108 rfl (lv_at hl 3 rfl) ?_
                      refine lv_iadd hx hb d_Rc_measureCommon_109 ?_
                      refine lv_topi (fun x_14 ex_14 => ?_)
                      obtain rfl : x_14 = nI (((q * 201) + 201) + k) := by rw [ex_14]; first | done | (exact nI_add _ _)
                      refine lv_iconst (v := 1) hx hb d_Rc_measureCommon_110 (by decide) ?_
                      refine lv_iadd hx hb d_Rc_measureCommon_111 ?_
                      refine lv_topi (fun x_15 ex_15 => ?_)
                      obtain rfl : x_15 = nI ((((q * 201) + 201) + k) + 1) := by rw [ex_15]; first | done | (exact nI_add _ _)
                      refine va_iald hx hb hK hP 2 0 rfl rfl (vp_in_nI (by omega) (by omega)) d_Rc_measureCommon_112 ?_
                      rw [show (nI ((((q * 201) + 201) + k) + 1)).toNatClampNeg = ((((q * 201) + 201) + k) + 1) from nI_clamp (by omega)]
                      refine lv_topi (fun x_16 ex_16 => ?_)
                      obtain rfl : x_16 = nI (lcM E no nt (q + 1) (k + 1)) := by rw [ex_16]; first | done | (rw [show q * 201 + 201 + k + 1 = (q + 1) * 201 + (k + 1) by omega]; exact hr1 (q + 1) (Nat.le_refl _) (by omega) (k + 1) (by omega))
                      refine lv_iconst (v := 1) hx hb d_Rc_measureCommon_113 (by decide) ?_
                      refine lv_iadd hx hb d_Rc_measureCommon_114 ?_
                      refine lv_topi (fun x_17 ex_17 => ?_)
                      obtain rfl : x_17 = nI ((lcM E no nt (q + 1) (k + 1)) + 1) := by rw [ex_17]; first | done | (exact nI_add _ _)
                      refine va_iast hx hb hK hP hD hS 2 0 rfl rfl (vp_in_nI (by omega) (by omega)) d_Rc_measureCommon_115 (fun H locs hP hD hS => ?_)
                      rw [show (nI ((q * 201) + k)).toNatClampNeg = ((q * 201) + k) from nI_clamp (by omega)] at hP hD
                      have hP : va_P (dC, dI) classes [(h, .inr (6, [.int (nI nt), rc_stock, rc_text, rc_maker, rc_tape, .int (nI no), rc_file, rc_newAt, rc_newLength, .ref soA, rc_sums, .ref cmA, rc_deleted, rc_deletedTotal, rc_kept, rc_keptNew, rc_keptTotal])), (soA, .inl (cI, 400, .inl so)), (cmA, .inl (cI, 40401, .inl (upd cmw ((q * 201) + k) (nI ((lcM E no nt (q + 1) (k + 1)) + 1)))))] H := hP
                      have hD : va_D A [(h, .inr (6, [.int (nI nt), rc_stock, rc_text, rc_maker, rc_tape, .int (nI no), rc_file, rc_newAt, rc_newLength, .ref soA, rc_sums, .ref cmA, rc_deleted, rc_deletedTotal, rc_kept, rc_keptNew, rc_keptTotal])), (soA, .inl (cI, 400, .inl so)), (cmA, .inl (cI, 40401, .inl (upd cmw ((q * 201) + k) (nI ((lcM E no nt (q + 1) (k + 1)) + 1)))))] := hD
                      refine lv_goto (tgt := 152) hx hb d_Rc_measureCommon_116 (by decide) ?_
                      refine lv_iinc (v := nI k - 1) (lv' := [(3, .int (nI k - 1)), (0, .ref h), (1, .int (nI q)), (2, .int (nI (q * 201)))]) hx hb d_Rc_measureCommon_152 hl (k := 3) rfl (by rw [show Int32.ofInt (-1) = -1 from by decide]; exact (Int32.sub_eq_add_neg _ _).symm) (by decide) rfl (fun ls hl => ?_)
                      refine lv_goto (tgt := 68) hx hb d_Rc_measureCommon_155 (by decide) ?_
                      exact ih_68 k (upd cmw ((q * 201) + k) (nI ((lcM E no nt (q + 1) (k + 1)) + 1))) _ _ _ (by omega) (by omega) (hr1.upd (by omega)) (hr2.step (congrArg nI (lcM_e n_q n_k ((hE q k n_q n_k).mp c_89)).symm)) hP hD hS (lv_sub hl [1, 2, 3, 0] rfl)
              exact loop_68 _ nt (upd cmv ((q * 201) + nt) 0) _ _ _ (Nat.lt_succ_self _) (Nat.le_refl _) (hq1.upd (by omega)) (fun j z1 z2 => by rw [show j = nt by omega, upd_eq, lcM_n]; rfl) hP hD hS (lv_sub hl [2, 3, 1, 0] rfl)
        exact loop_39 _ no cmu _ _ _ (Nat.lt_succ_self _) (Nat.le_refl _) (fun i z1 z2 j z3 => by rw [show i = no by omega, lcM_o]; exact hk0 j (by omega)) hP hD hS (lv_sub hl [1, 0] rfl)
      · have n_7 : k ≤ nt := Nat.le_of_not_lt (fun z => c_7 ((nI_ltI (a := nt) (b := k) (by omega) (by omega)).mpr z))
        refine lv_aload_n hx hb d_Rc_measureCommon_10 rfl (lv_at hl 0 rfl) ?_
        refine va_get (D := (dC, dI)) (ci := 6) (v := .ref cmA) (C := R_Rc) (T := F_Rc) (N := 17) hx hb hts i_Rc hown hK hP 0 rfl rfl 11 (by decide) (hts _ gw_481) (fun _ h9 => h9) rfl d_Rc_measureCommon_11 ?_
        refine lv_aload_n hx hb d_Rc_measureCommon_14 rfl (lv_at hl 0 rfl) ?_
        refine va_get (D := (dC, dI)) (ci := 6) (v := .int (nI no)) (C := R_Rc) (T := F_Rc) (N := 17) hx hb hts i_Rc hown hK hP 0 rfl rfl 5 (by decide) (hts _ gw_475) (fun _ h9 => h9) rfl d_Rc_measureCommon_15 ?_
        refine lv_sipush (v := 201) hx hb d_Rc_measureCommon_18 (by decide) ?_
        refine lv_imul hx hb d_Rc_measureCommon_21 ?_
        refine lv_topi (fun x_18 ex_18 => ?_)
        obtain rfl : x_18 = nI (no * 201) := by rw [ex_18]; first | done | (exact nI_mul _ _)
        refine lv_iload_n hx hb d_Rc_measureCommon_22 rfl (lv_at hl 1 rfl) ?_
        refine lv_iadd hx hb d_Rc_measureCommon_23 ?_
        refine lv_topi (fun x_19 ex_19 => ?_)
        obtain rfl : x_19 = nI ((no * 201) + k) := by rw [ex_19]; first | done | (exact nI_add _ _)
        refine lv_iconst (v := 0) hx hb d_Rc_measureCommon_24 (by decide) ?_
        refine va_iast hx hb hK hP hD hS 2 0 rfl rfl (vp_in_nI (by omega) (by omega)) d_Rc_measureCommon_25 (fun H locs hP hD hS => ?_)
        rw [show (nI ((no * 201) + k)).toNatClampNeg = ((no * 201) + k) from nI_clamp (by omega)] at hP hD
        have hP : va_P (dC, dI) classes [(h, .inr (6, [.int (nI nt), rc_stock, rc_text, rc_maker, rc_tape, .int (nI no), rc_file, rc_newAt, rc_newLength, .ref soA, rc_sums, .ref cmA, rc_deleted, rc_deletedTotal, rc_kept, rc_keptNew, rc_keptTotal])), (soA, .inl (cI, 400, .inl so)), (cmA, .inl (cI, 40401, .inl (upd cmu ((no * 201) + k) 0)))] H := hP
        have hD : va_D A [(h, .inr (6, [.int (nI nt), rc_stock, rc_text, rc_maker, rc_tape, .int (nI no), rc_file, rc_newAt, rc_newLength, .ref soA, rc_sums, .ref cmA, rc_deleted, rc_deletedTotal, rc_kept, rc_keptNew, rc_keptTotal])), (soA, .inl (cI, 400, .inl so)), (cmA, .inl (cI, 40401, .inl (upd cmu ((no * 201) + k) 0)))] := hD
        refine lv_iinc (v := nI (k + 1)) (lv' := [(1, .int (nI (k + 1))), (0, .ref h)]) hx hb d_Rc_measureCommon_26 hl (k := 1) rfl (by exact nI_add _ _) (by decide) rfl (fun ls hl => ?_)
        refine lv_goto (tgt := 2) hx hb d_Rc_measureCommon_29 (by decide) ?_
        exact ih_2 (k + 1) (upd cmu (no * 201 + k) 0) _ _ _ (by omega) (by omega) (fun j z => if e9 : j = k then by rw [e9, upd_eq]; rfl else (upd_ne _ (by omega)).trans (hk0 j (by omega))) hP hD hS (lv_sub hl [1, 0] rfl)
  exact loop_2 _ 0 cm _ _ _ (Nat.lt_succ_self _) (Nat.zero_le _) (fun j z => absurd z (Nat.not_lt_zero _)) hP hD hS (lv_sub hl [1, 0] rfl)
set_option maxHeartbeats 4000000 in
set_option maxRecDepth 100000 in
/-- the walk along old and new lines -/
theorem m_Rc_walk (l : Launch) (dC : Nat → ClassId) (dI : Nat → Nat → Nat) (cI cB cL cZ cR : ClassId) (h soA cmA tx odA kpA knA delA : Nat) (rc_stock rc_maker rc_tape rc_file rc_newAt rc_newLength rc_sums rc_deletedTotal rc_keptTotal tx_length tx_size tx_unsure tx_stranded tx_dead tx_stock tx_changes tx_lines tx_loaded tx_version tx_loadedFile tx_rows tx_slots tx_total tx_reach tx_deleters tx_gone tx_waits : Value) (so cm od kp kn de : Nat → Int32) (E : Nat → Nat → Bool) (OX : Nat → Nat) (no nt : Nat) (sz : Nat) (hno : no ≤ 200) (hnt : nt ≤ 200) (hE : ∀ i j, i < no → j < nt → (so i = so (no + j) ↔ E i j = true)) (hcm : cmR E no nt cm 0) (hOX : ∀ i, i < no → od i = nI (OX i)) : Met l y_Rc_walk ws_Rc_walk ({ frames := 0, cells := 0, slots := 0, locals := 0 }) (xw_Pc dC dI [(cI, .int), (cB, .byte), (cL, .long), (cZ, .boolean), (cR, .object "PatchStore$Repository")] [.ref h] [(h, .inr (6, [.int (nI nt), rc_stock, .ref tx, rc_maker, rc_tape, .int (nI no), rc_file, rc_newAt, rc_newLength, .ref soA, rc_sums, .ref cmA, .ref delA, rc_deletedTotal, .ref kpA, .ref knA, rc_keptTotal])), (soA, .inl (cI, 400, .inl so)), (cmA, .inl (cI, 40401, .inl cm)), (tx, .inr (10, [.ref odA, tx_length, tx_size, tx_unsure, tx_stranded, tx_dead, tx_stock, tx_changes, tx_lines, tx_loaded, tx_version, tx_loadedFile, tx_rows, tx_slots, tx_total, tx_reach, tx_deleters, tx_gone, tx_waits])), (odA, .inl (cI, 400, .inl od)), (kpA, .inl (cI, 200, .inl kp)), (knA, .inl (cI, 200, .inl kn)), (delA, .inl (cI, 200, .inl de))] sz) (va_Qv (fun u : (Nat → Int32) × (Nat → Int32) × (Nat → Int32) => arrL u.1 ((wkK E no nt (no + nt)).map (fun x => OX x.1)) ∧ arrL u.2.1 ((wkK E no nt (no + nt)).map (fun x => x.2)) ∧ arrL u.2.2 ((wkD E no nt (no + nt)).map OX)) (fun u t => xw_B dC dI [(cI, .int), (cB, .byte), (cL, .long), (cZ, .boolean), (cR, .object "PatchStore$Repository")] (va_A [(h, .inr (6, [.int (nI nt), rc_stock, .ref tx, rc_maker, rc_tape, .int (nI no), rc_file, rc_newAt, rc_newLength, .ref soA, rc_sums, .ref cmA, .ref delA, rc_deletedTotal, .ref kpA, .ref knA, rc_keptTotal])), (soA, .inl (cI, 400, .inl so)), (cmA, .inl (cI, 40401, .inl cm)), (tx, .inr (10, [.ref odA, tx_length, tx_size, tx_unsure, tx_stranded, tx_dead, tx_stock, tx_changes, tx_lines, tx_loaded, tx_version, tx_loadedFile, tx_rows, tx_slots, tx_total, tx_reach, tx_deleters, tx_gone, tx_waits])), (odA, .inl (cI, 400, .inl od)), (kpA, .inl (cI, 200, .inl kp)), (knA, .inl (cI, 200, .inl kn)), (delA, .inl (cI, 200, .inl de))] sz) [(h, .inr (6, [.int (nI nt), rc_stock, .ref tx, rc_maker, rc_tape, .int (nI no), rc_file, rc_newAt, rc_newLength, .ref soA, rc_sums, .ref cmA, .ref delA, .int (nI (wkM E no nt (no + nt))), .ref kpA, .ref knA, .int (nI (wkL E no nt (no + nt)))])), (soA, .inl (cI, 400, .inl so)), (cmA, .inl (cI, 40401, .inl cm)), (tx, .inr (10, [.ref odA, tx_length, tx_size, tx_unsure, tx_stranded, tx_dead, tx_stock, tx_changes, tx_lines, tx_loaded, tx_version, tx_loadedFile, tx_rows, tx_slots, tx_total, tx_reach, tx_deleters, tx_gone, tx_waits])), (odA, .inl (cI, 400, .inl od)), (kpA, .inl (cI, 200, .inl u.1)), (knA, .inl (cI, 200, .inl u.2.1)), (delA, .inl (cI, 200, .inl u.2.2))] t) (va_A [(h, .inr (6, [.int (nI nt), rc_stock, .ref tx, rc_maker, rc_tape, .int (nI no), rc_file, rc_newAt, rc_newLength, .ref soA, rc_sums, .ref cmA, .ref delA, rc_deletedTotal, .ref kpA, .ref knA, rc_keptTotal])), (soA, .inl (cI, 400, .inl so)), (cmA, .inl (cI, 40401, .inl cm)), (tx, .inr (10, [.ref odA, tx_length, tx_size, tx_unsure, tx_stranded, tx_dead, tx_stock, tx_changes, tx_lines, tx_loaded, tx_version, tx_loadedFile, tx_rows, tx_slots, tx_total, tx_reach, tx_deleters, tx_gone, tx_waits])), (odA, .inl (cI, 400, .inl od)), (kpA, .inl (cI, 200, .inl kp)), (knA, .inl (cI, 200, .inl kn)), (delA, .inl (cI, 200, .inl de))] sz)) 0 0 (va_A [(h, .inr (6, [.int (nI nt), rc_stock, .ref tx, rc_maker, rc_tape, .int (nI no), rc_file, rc_newAt, rc_newLength, .ref soA, rc_sums, .ref cmA, .ref delA, rc_deletedTotal, .ref kpA, .ref knA, rc_keptTotal])), (soA, .inl (cI, 400, .inl so)), (cmA, .inl (cI, 40401, .inl cm)), (tx, .inr (10, [.ref odA, tx_length, tx_size, tx_unsure, tx_stranded, tx_dead, tx_stock, tx_changes, tx_lines, tx_loaded, tx_version, tx_loadedFile, tx_rows, tx_slots, tx_total, tx_reach, tx_deleters, tx_gone, tx_waits])), (odA, .inl (cI, 400, .inl od)), (kpA, .inl (cI, 200, .inl kp)), (knA, .inl (cI, 200, .inl kn)), (delA, .inl (cI, 200, .inl de))] sz) := by
  refine Met.ofW (cc := prog_7_method_11_code) (maxL := 6) (ret := none) (by decide) rfl ?_
  intro p e s m args below meth c s₁ B hml hv
  obtain ⟨rfl, hsz, hP, hK, hD0⟩ := hv
  have hx := B.exec
  have hb := B.bytes
  have hr := B.returns
  have hts0 := atoms_spec (ws := ws_Rc_walk) B.pre
  have hts : ∀ w ∈ xg_1, w.before _ s = true := fun w h => hts0 w (List.mem_cons_of_mem _ h)
  have hown : s.vm.findClass "PatchStore$Recording" = some m.cls := findClass_of_methodNamed B.named
  have hlocks := B.notSynchronized
  subst hsz
  have hD := hD0.self (sz := s.heap.size)
  generalize hAe : va_A [(h, .inr (6, [.int (nI nt), rc_stock, .ref tx, rc_maker, rc_tape, .int (nI no), rc_file, rc_newAt, rc_newLength, .ref soA, rc_sums, .ref cmA, .ref delA, rc_deletedTotal, .ref kpA, .ref knA, rc_keptTotal])), (soA, .inl (cI, 400, .inl so)), (cmA, .inl (cI, 40401, .inl cm)), (tx, .inr (10, [.ref odA, tx_length, tx_size, tx_unsure, tx_stranded, tx_dead, tx_stock, tx_changes, tx_lines, tx_loaded, tx_version, tx_loadedFile, tx_rows, tx_slots, tx_total, tx_reach, tx_deleters, tx_gone, tx_waits])), (odA, .inl (cI, 400, .inl od)), (kpA, .inl (cI, 200, .inl kp)), (knA, .inl (cI, 200, .inl kn)), (delA, .inl (cI, 200, .inl de))] s.heap.size = A at hD ⊢
  have hA : ∀ q : Nat, s.heap.size ≤ q → A q := fun q h => by rw [← hAe]; exact Or.inr h
  have hS : va_S A s.heap s.heap [] := va_S.rf
  have hl := lv_entry ([.ref h]) (n := 6) (Nat.le_of_ble_eq_true rfl)
  rw [lg_entry_eq]
  generalize (lg_sl ([.ref h]) ++ List.replicate (6 - (lg_sl ([.ref h])).length) Slot.unset).toArray = ls at hl ⊢
  have hl : lv_has ls 6 [(0, .ref h)] := hl
  generalize hQe : MQ _ _ _ _ _ _ _ = Q
  refine lv_aload_n hx hb d_Rc_walk_0 rfl (lv_at hl 0 rfl) ?_
  refine lv_iconst (v := 0) hx hb d_Rc_walk_1 (by decide) ?_
  refine lv_topi (fun x_1 ex_1 => ?_)
  obtain rfl : x_1 = nI 0 := by rw [ex_1]; first | done | (rfl)
  refine va_put (D := (dC, dI)) (ci := 6) (v := .int (nI 0)) (ty := .int) (C := R_Rc) (T := F_Rc) (N := 17) hx hb hts i_Rc t_Rc t_Rc_ok n_Rc hown hK hP hD hS 0 rfl rfl 13 (by decide) (hts _ gw_483) (fun _ h9 => h9) rfl (by decide +kernel) rfl rfl (Nat.le_of_ble_eq_true rfl) d_Rc_walk_2 (fun H locs hP hD hS => ?_)
  have hP : va_P (dC, dI) classes [(h, .inr (6, [.int (nI nt), rc_stock, .ref tx, rc_maker, rc_tape, .int (nI no), rc_file, rc_newAt, rc_newLength, .ref soA, rc_sums, .ref cmA, .ref delA, .int (nI 0), .ref kpA, .ref knA, rc_keptTotal])), (soA, .inl (cI, 400, .inl so)), (cmA, .inl (cI, 40401, .inl cm)), (tx, .inr (10, [.ref odA, tx_length, tx_size, tx_unsure, tx_stranded, tx_dead, tx_stock, tx_changes, tx_lines, tx_loaded, tx_version, tx_loadedFile, tx_rows, tx_slots, tx_total, tx_reach, tx_deleters, tx_gone, tx_waits])), (odA, .inl (cI, 400, .inl od)), (kpA, .inl (cI, 200, .inl kp)), (knA, .inl (cI, 200, .inl kn)), (delA, .inl (cI, 200, .inl de))] H := hP
  have hD : va_D A [(h, .inr (6, [.int (nI nt), rc_stock, .ref tx, rc_maker, rc_tape, .int (nI no), rc_file, rc_newAt, rc_newLength, .ref soA, rc_sums, .ref cmA, .ref delA, .int (nI 0), .ref kpA, .ref knA, rc_keptTotal])), (soA, .inl (cI, 400, .inl so)), (cmA, .inl (cI, 40401, .inl cm)), (tx, .inr (10, [.ref odA, tx_length, tx_size, tx_unsure, tx_stranded, tx_dead, tx_stock, tx_changes, tx_lines, tx_loaded, tx_version, tx_loadedFile, tx_rows, tx_slots, tx_total, tx_reach, tx_deleters, tx_gone, tx_waits])), (odA, .inl (cI, 400, .inl od)), (kpA, .inl (cI, 200, .inl kp)), (knA, .inl (cI, 200, .inl kn)), (delA, .inl (cI, 200, .inl de))] := hD
  refine lv_aload_n hx hb d_Rc_walk_5 rfl (lv_at hl 0 rfl) ?_
  refine lv_iconst (v := 0) hx hb d_Rc_walk_6 (by decide) ?_
  refine lv_topi (fun x_2 ex_2 => ?_)
  obtain rfl : x_2 = nI 0 := by rw [ex_2]; first | done | (rfl)
  refine va_put (D := (dC, dI)) (ci := 6) (v := .int (nI 0)) (ty := .int) (C := R_Rc) (T := F_Rc) (N := 17) hx hb hts i_Rc t_Rc t_Rc_ok n_Rc hown hK hP hD hS 0 rfl rfl 16 (by decide) (hts _ gw_486) (fun _ h9 => h9) rfl (by decide +kernel) rfl rfl (Nat.le_of_ble_eq_true rfl) d_Rc_walk_7 (fun H locs hP hD hS => ?_)
  have hP : va_P (dC, dI) classes [(h, .inr (6, [.int (nI nt), rc_stock, .ref tx, rc_maker, rc_tape, .int (nI no), rc_file, rc_newAt, rc_newLength, .ref soA, rc_sums, .ref cmA, .ref delA, .int (nI 0), .ref kpA, .ref knA, .int (nI 0)])), (soA, .inl (cI, 400, .inl so)), (cmA, .inl (cI, 40401, .inl cm)), (tx, .inr (10, [.ref odA, tx_length, tx_size, tx_unsure, tx_stranded, tx_dead, tx_stock, tx_changes, tx_lines, tx_loaded, tx_version, tx_loadedFile, tx_rows, tx_slots, tx_total, tx_reach, tx_deleters, tx_gone, tx_waits])), (odA, .inl (cI, 400, .inl od)), (kpA, .inl (cI, 200, .inl kp)), (knA, .inl (cI, 200, .inl kn)), (delA, .inl (cI, 200, .inl de))] H := hP
  have hD : va_D A [(h, .inr (6, [.int (nI nt), rc_stock, .ref tx, rc_maker, rc_tape, .int (nI no), rc_file, rc_newAt, rc_newLength, .ref soA, rc_sums, .ref cmA, .ref delA, .int (nI 0), .ref kpA, .ref knA, .int (nI 0)])), (soA, .inl (cI, 400, .inl so)), (cmA, .inl (cI, 40401, .inl cm)), (tx, .inr (10, [.ref odA, tx_length, tx_size, tx_unsure, tx_stranded, tx_dead, tx_stock, tx_changes, tx_lines, tx_loaded, tx_version, tx_loadedFile, tx_rows, tx_slots, tx_total, tx_reach, tx_deleters, tx_gone, tx_waits])), (odA, .inl (cI, 400, .inl od)), (kpA, .inl (cI, 200, .inl kp)), (knA, .inl (cI, 200, .inl kn)), (delA, .inl (cI, 200, .inl de))] := hD
  refine lv_iconst (v := 0) hx hb d_Rc_walk_10 (by decide) ?_
  refine lv_istore_n (lv' := [(1, .int 0), (0, .ref h)]) hx hb d_Rc_walk_11 rfl hl (by decide) rfl (fun ls hl => ?_)
  refine lv_iconst (v := 0) hx hb d_Rc_walk_12 (by decide) ?_
  refine lv_istore_n (lv' := [(2, .int 0), (1, .int 0), (0, .ref h)]) hx hb d_Rc_walk_13 rfl hl (by decide) rfl (fun ls hl => ?_)
  refine lv_iconst (v := 0) hx hb d_Rc_walk_14 (by decide) ?_
  refine lv_istore_n (lv' := [(3, .int 0), (2, .int 0), (1, .int 0), (0, .ref h)]) hx hb d_Rc_walk_15 rfl hl (by decide) rfl (fun ls hl => ?_)
  have loop_16 : ∀ (n9 : Nat) (k : Nat) (kpu : Nat → Int32) (knu : Nat → Int32) (deu : Nat → Int32) (H : Heap) (locs : List Loc) (ls : Array Slot), no + nt - k < n9 → (k ≤ no + nt) → (arrL kpu ((wkK E no nt k).map (fun x => OX x.1))) → (arrL knu ((wkK E no nt k).map (fun x => x.2))) → (arrL deu ((wkD E no nt k).map OX)) → va_P (dC, dI) classes [(h, .inr (6, [.int (nI nt), rc_stock, .ref tx, rc_maker, rc_tape, .int (nI no), rc_file, rc_newAt, rc_newLength, .ref soA, rc_sums, .ref cmA, .ref delA, .int (nI (wkM E no nt k)), .ref kpA, .ref knA, .int (nI (wkL E no nt k))])), (soA, .inl (cI, 400, .inl so)), (cmA, .inl (cI, 40401, .inl cm)), (tx, .inr (10, [.ref odA, tx_length, tx_size, tx_unsure, tx_stranded, tx_dead, tx_stock, tx_changes, tx_lines, tx_loaded, tx_version, tx_loadedFile, tx_rows, tx_slots, tx_total, tx_reach, tx_deleters, tx_gone, tx_waits])), (odA, .inl (cI, 400, .inl od)), (kpA, .inl (cI, 200, .inl kpu)), (knA, .inl (cI, 200, .inl knu)), (delA, .inl (cI, 200, .inl deu))] H → va_D A [(h, .inr (6, [.int (nI nt), rc_stock, .ref tx, rc_maker, rc_tape, .int (nI no), rc_file, rc_newAt, rc_newLength, .ref soA, rc_sums, .ref cmA, .ref delA, .int (nI (wkM E no nt k)), .ref kpA, .ref knA, .int (nI (wkL E no nt k))])), (soA, .inl (cI, 400, .inl so)), (cmA, .inl (cI, 40401, .inl cm)), (tx, .inr (10, [.ref odA, tx_length, tx_size, tx_unsure, tx_stranded, tx_dead, tx_stock, tx_changes, tx_lines, tx_loaded, tx_version, tx_loadedFile, tx_rows, tx_slots, tx_total, tx_reach, tx_deleters, tx_gone, tx_waits])), (odA, .inl (cI, 400, .inl od)), (kpA, .inl (cI, 200, .inl kpu)), (knA, .inl (cI, 200, .inl knu)), (delA, .inl (cI, 200, .inl deu))] → va_S A s.heap H locs → lv_has ls 6 [(0, .ref h), (1, .int (nI (wkI E no nt k))), (2, .int (nI (wkJ E no nt k))), (3, .int (nI k))] → W p l e (headSpec ws_Rc_walk ({ frames := 0, cells := 0, slots := 0, locals := 0 })).room s m ([.ref h] : List Value).toArray below meth c H locs 0 0 Q (F0 m 16 ls []) := by
    intro n9
    induction n9 with
    | zero => intro k kpu knu deu H locs ls hm; exact absurd hm (Nat.not_lt_zero _)
    | succ n9 ih_16 =>
      intro k kpu knu deu H locs ls hm hk hkp hkn hde hP hD hS hl
      obtain ⟨hv1, hv2, hv3, hv4, hv5, hv6, hv7⟩ := wkV_all E no nt k
      refine lv_iload_n hx hb d_Rc_walk_16 rfl (lv_at hl 3 rfl) ?_
      refine lv_aload_n hx hb d_Rc_walk_17 rfl (lv_at hl 0 rfl) ?_
      refine va_get (D := (dC, dI)) (ci := 6) (v := .int (nI no)) (C := R_Rc) (T := F_Rc) (N := 17) hx hb hts i_Rc hown hK hP 0 rfl rfl 5 (by decide) (hts _ gw_475) (fun _ h9 => h9) rfl d_Rc_walk_18 ?_
      refine lv_aload_n hx hb d_Rc_walk_21 rfl (lv_at hl 0 rfl) ?_
      refine va_get (D := (dC, dI)) (ci := 6) (v := .int (nI nt)) (C := R_Rc) (T := F_Rc) (N := 17) hx hb hts i_Rc hown hK hP 0 rfl rfl 0 (by decide) (hts _ gw_469) (fun _ h9 => h9) rfl d_Rc_walk_22 ?_
      refine lv_iadd hx hb d_Rc_walk_25 ?_
      refine lv_topi (fun x_3 ex_3 => ?_)
      obtain rfl : x_3 = nI (no + nt) := by rw [ex_3]; first | done | (exact nI_add _ _)
      refine lv_icmp_ge (tgt := 225) hx hb d_Rc_walk_26 (by decide) (fun c_26 => ?_) (fun c_26 => ?_)
      · have n_26 : (no + nt) ≤ k := (nI_leI (a := (no + nt)) (b := k) (by omega) (by omega)).mp c_26
        have hkT : k = no + nt := by omega
        rw [hkT] at hkp hkn hde hP hD
        rw [← hQe]
        exact W.vret hx hb hr (fun t ht hW => ⟨⟨(kpu, knu, deu), rfl, ⟨hkp, hkn, hde⟩, by rw [ht]; exact hP, va_K.moved hW.alike hK, hD⟩, hS.F ht⟩) hS.2.2 d_Rc_walk_225
      · have n_26 : k < (no + nt) := Nat.lt_of_not_le (fun z => c_26 ((nI_leI (a := (no + nt)) (b := k) (by omega) (by omega)).mpr z))
        refine lv_iload_n hx hb d_Rc_walk_29 rfl (lv_at hl 1 rfl) ?_
        refine lv_aload_n hx hb d_Rc_walk_30 rfl (lv_at hl 0 rfl) ?_
        refine va_get (D := (dC, dI)) (ci := 6) (v := .int (nI no)) (C := R_Rc) (T := F_Rc) (N := 17) hx hb hts i_Rc hown hK hP 0 rfl rfl 5 (by decide) (hts _ gw_475) (fun _ h9 => h9) rfl d_Rc_walk_31 ?_
        refine lv_icmp_ge (tgt := 41) hx hb d_Rc_walk_34 (by decide) (fun c_34 => ?_) (fun c_34 => ?_)
        · have n_34 : no ≤ (wkI E no nt k) := (nI_leI (a := no) (b := (wkI E no nt k)) (by omega) (by omega)).mp c_34
          refine lv_iconst (v := 0) hx hb d_Rc_walk_41 (by decide) ?_
          refine lv_istore (lv' := [(4, .int 0), (0, .ref h), (1, .int (nI (wkI E no nt k))), (2, .int (nI (wkJ E no nt k))), (3, .int (nI k))]) hx hb d_Rc_walk_42 hl (by decide) rfl (fun ls hl => ?_)
          refine lv_iload_n hx hb d_Rc_walk_44 rfl (lv_at hl 3 rfl) ?_
          refine lv_aload_n hx hb d_Rc_walk_45 rfl (lv_at hl 1 rfl) ?_
          refine va_get (D := (dC, dI)) (ci := 6) (v := .int (nI nt)) (C := R_Rc) (T := F_Rc) (N := 17) hx hb hts i_Rc hown hK hP 0 rfl rfl 0 (by decide) (hts _ gw_469) (fun _ h9 => h9) rfl d_Rc_walk_46 ?_
          refine lv_icmp_ge (tgt := 56) hx hb d_Rc_walk_49 (by decide) (fun c_49 => ?_) (fun c_49 => ?_)
          · have n_49 : nt ≤ (wkJ E no nt k) := (nI_leI (a := nt) (b := (wkJ E no nt k)) (by omega) (by omega)).mp c_49
            refine lv_iconst (v := 0) hx hb d_Rc_walk_56 (by decide) ?_
            refine lv_istore (lv' := [(5, .int 0), (4, .int 0), (0, .ref h), (1, .int (nI (wkI E no nt k))), (2, .int (nI (wkJ E no nt k))), (3, .int (nI k))]) hx hb d_Rc_walk_57 hl (by decide) rfl (fun ls hl => ?_)
            refine lv_iload hx hb d_Rc_walk_59 (lv_at hl 1 rfl) ?_
            refine lv_if_eq (tgt := 136) hx hb d_Rc_walk_61 (by decide) (fun _ => ?_) (fun c_61 => absurd (by decide) c_61)
            refine lv_iload hx hb d_Rc_walk_136 (lv_at hl 1 rfl) ?_
            refine lv_if_eq (tgt := 211) hx hb d_Rc_walk_138 (by decide) (fun _ => ?_) (fun c_138 => absurd (by decide) c_138)
            refine lv_iload hx hb d_Rc_walk_211 (lv_at hl 0 rfl) ?_
            refine lv_if_eq (tgt := 219) hx hb d_Rc_walk_213 (by decide) (fun _ => ?_) (fun c_213 => absurd (by decide) c_213)
            obtain ⟨he1, he2, he3, he4⟩ := wk_zz (E := E) (no := no) (nt := nt) (k := k) (by omega) (by omega)
            have e1 : nI (wkI E no nt k) = nI (wkI E no nt (k + 1)) := congrArg nI he1.symm
            have e2 : nI (wkJ E no nt k) = nI (wkJ E no nt (k + 1)) := congrArg nI he2.symm
            rw [e1, e2] at hl
            have e3 : nI (wkL E no nt k) = nI (wkL E no nt (k + 1)) := congrArg nI (by unfold wkL; rw [he3]; first | done | rfl | (rw [List.length_append]; rfl))
            have e4 : nI (wkM E no nt k) = nI (wkM E no nt (k + 1)) := congrArg nI (by unfold wkM; rw [he4]; first | done | rfl | (rw [List.length_append]; rfl))
            rw [e3, e4] at hP hD
            refine lv_iinc (v := nI (k + 1)) (lv' := [(3, .int (nI (k + 1))), (5, .int 0), (4, .int 0), (0, .ref h), (1, .int (nI (wkI E no nt (k + 1)))), (2, .int (nI (wkJ E no nt (k + 1))))]) hx hb d_Rc_walk_219 hl (k := 5) rfl (by exact nI_add _ _) (by decide) rfl (fun ls hl => ?_)
            refine lv_goto (tgt := 16) hx hb d_Rc_walk_222 (by decide) ?_
            exact ih_16 (k + 1) kpu knu deu _ _ _ (by omega) (by omega) (by rw [he3]; exact hkp) (by rw [he3]; exact hkn) (by rw [he4]; exact hde) hP hD hS (lv_sub hl [3, 4, 5, 0] rfl)
          · have n_49 : (wkJ E no nt k) < nt := Nat.lt_of_not_le (fun z => c_49 ((nI_leI (a := nt) (b := (wkJ E no nt k)) (by omega) (by omega)).mpr z))
            refine lv_iconst (v := 1) hx hb d_Rc_walk_52 (by decide) ?_
            refine lv_goto (tgt := 57) hx hb d_Rc_walk_53 (by decide) ?_
            refine lv_istore (lv' := [(5, .int 1), (4, .int 0), (0, .ref h), (1, .int (nI (wkI E no nt k))), (2, .int (nI (wkJ E no nt k))), (3, .int (nI k))]) hx hb d_Rc_walk_57 hl (by decide) rfl (fun ls hl => ?_)
            refine lv_iload hx hb d_Rc_walk_59 (lv_at hl 1 rfl) ?_
            refine lv_if_eq (tgt := 136) hx hb d_Rc_walk_61 (by decide) (fun _ => ?_) (fun c_61 => absurd (by decide) c_61)
            refine lv_iload hx hb d_Rc_walk_136 (lv_at hl 1 rfl) ?_
            refine lv_if_eq (tgt := 211) hx hb d_Rc_walk_138 (by decide) (fun _ => ?_) (fun c_138 => absurd (by decide) c_138)
            refine lv_iload hx hb d_Rc_walk_211 (lv_at hl 0 rfl) ?_
            refine lv_if_eq (tgt := 219) hx hb d_Rc_walk_213 (by decide) (fun c_213 => absurd c_213 (by decide)) (fun _ => ?_)
            refine lv_iinc (v := nI (wkJ E no nt k + 1)) (lv' := [(2, .int (nI (wkJ E no nt k + 1))), (5, .int 1), (4, .int 0), (0, .ref h), (1, .int (nI (wkI E no nt k))), (3, .int (nI k))]) hx hb d_Rc_walk_216 hl (k := 4) rfl (by exact nI_add _ _) (by decide) rfl (fun ls hl => ?_)
            obtain ⟨he1, he2, he3, he4⟩ := wk_n (E := E) (no := no) (nt := nt) (k := k) (fun z => absurd z.1 (by omega)) (fun z => absurd z.1 (by omega)) n_49
            have e1 : nI (wkI E no nt k) = nI (wkI E no nt (k + 1)) := congrArg nI he1.symm
            have e2 : nI (wkJ E no nt k + 1) = nI (wkJ E no nt (k + 1)) := congrArg nI he2.symm
            rw [e1, e2] at hl
            have e3 : nI (wkL E no nt k) = nI (wkL E no nt (k + 1)) := congrArg nI (by unfold wkL; rw [he3]; first | done | rfl | (rw [List.length_append]; rfl))
            have e4 : nI (wkM E no nt k) = nI (wkM E no nt (k + 1)) := congrArg nI (by unfold wkM; rw [he4]; first | done | rfl | (rw [List.length_append]; rfl))
            rw [e3, e4] at hP hD
            refine lv_iinc (v := nI (k + 1)) (lv' := [(3, .int (nI (k + 1))), (2, .int (nI (wkJ E no nt (k + 1)))), (5, .int 1), (4, .int 0), (0, .ref h), (1, .int (nI (wkI E no nt (k + 1))))]) hx hb d_Rc_walk_219 hl (k := 5) rfl (by exact nI_add _ _) (by decide) rfl (fun ls hl => ?_)
            refine lv_goto (tgt := 16) hx hb d_Rc_walk_222 (by decide) ?_
            exact ih_16 (k + 1) kpu knu deu _ _ _ (by omega) (by omega) (by rw [he3]; exact hkp) (by rw [he3]; exact hkn) (by rw [he4]; exact hde) hP hD hS (lv_sub hl [4, 5, 1, 0] rfl)
        · have n_34 : (wkI E no nt k) < no := Nat.lt_of_not_le (fun z => c_34 ((nI_leI (a := no) (b := (wkI E no nt k)) (by omega) (by omega)).mpr z))
          refine lv_iconst (v := 1) hx hb d_Rc_walk_37 (by decide) ?_
          refine lv_goto (tgt := 42) hx hb d_Rc_walk_38 (by decide) ?_
          refine lv_istore (lv' := [(4, .int 1), (0, .ref h), (1, .int (nI (wkI E no nt k))), (2, .int (nI (wkJ E no nt k))), (3, .int (nI k))]) hx hb d_Rc_walk_42 hl (by decide) rfl (fun ls hl => ?_)
          refine lv_iload_n hx hb d_Rc_walk_44 rfl (lv_at hl 3 rfl) ?_
          refine lv_aload_n hx hb d_Rc_walk_45 rfl (lv_at hl 1 rfl) ?_
          refine va_get (D := (dC, dI)) (ci := 6) (v := .int (nI nt)) (C := R_Rc) (T := F_Rc) (N := 17) hx hb hts i_Rc hown hK hP 0 rfl rfl 0 (by decide) (hts _ gw_469) (fun _ h9 => h9) rfl d_Rc_walk_46 ?_
          refine lv_icmp_ge (tgt := 56) hx hb d_Rc_walk_49 (by decide) (fun c_49 => ?_) (fun c_49 => ?_)
          · have n_49 : nt ≤ (wkJ E no nt k) := (nI_leI (a := nt) (b := (wkJ E no nt k)) (by omega) (by omega)).mp c_49
            refine lv_iconst (v := 0) hx hb d_Rc_walk_56 (by decide) ?_
            refine lv_istore (lv' := [(5, .int 0), (4, .int 1), (0, .ref h), (1, .int (nI (wkI E no nt k))), (2, .int (nI (wkJ E no nt k))), (3, .int (nI k))]) hx hb d_Rc_walk_57 hl (by decide) rfl (fun ls hl => ?_)
            refine lv_iload hx hb d_Rc_walk_59 (lv_at hl 1 rfl) ?_
            refine lv_if_eq (tgt := 136) hx hb d_Rc_walk_61 (by decide) (fun c_61 => absurd c_61 (by decide)) (fun _ => ?_)
            refine lv_iload hx hb d_Rc_walk_64 (lv_at hl 0 rfl) ?_
            refine lv_if_eq (tgt := 136) hx hb d_Rc_walk_66 (by decide) (fun _ => ?_) (fun c_66 => absurd (by decide) c_66)
            refine lv_iload hx hb d_Rc_walk_136 (lv_at hl 1 rfl) ?_
            refine lv_if_eq (tgt := 211) hx hb d_Rc_walk_138 (by decide) (fun c_138 => absurd c_138 (by decide)) (fun _ => ?_)
            refine lv_iload hx hb d_Rc_walk_141 (lv_at hl 0 rfl) ?_
            refine lv_if_eq (tgt := 177) hx hb d_Rc_walk_143 (by decide) (fun _ => ?_) (fun c_143 => absurd (by decide) c_143)
            refine lv_aload_n hx hb d_Rc_walk_177 rfl (lv_at hl 2 rfl) ?_
            refine va_get (D := (dC, dI)) (ci := 6) (v := .ref delA) (C := R_Rc) (T := F_Rc) (N := 17) hx hb hts i_Rc hown hK hP 0 rfl rfl 12 (by decide) (hts _ gw_482) (fun _ h9 => h9) rfl d_Rc_walk_178 ?_
            refine lv_aload_n hx hb d_Rc_walk_181 rfl (lv_at hl 2 rfl) ?_
            refine va_get (D := (dC, dI)) (ci := 6) (v := .int (nI (wkM E no nt k))) (C := R_Rc) (T := F_Rc) (N := 17) hx hb hts i_Rc hown hK hP 0 rfl rfl 13 (by decide) (hts _ gw_483) (fun _ h9 => h9) rfl d_Rc_walk_182 ?_
            refine lv_aload_n hx hb d_Rc_walk_185 rfl (lv_at hl 2 rfl) ?_
            refine va_get (D := (dC, dI)) (ci := 6) (v := .ref tx) (C := R_Rc) (T := F_Rc) (N := 17) hx hb hts i_Rc hown hK hP 0 rfl rfl 2 (by decide) (hts _ gw_472) (fun _ h9 => h9) rfl d_Rc_walk_186 ?_
            refine va_get (D := (dC, dI)) (ci := 10) (v := .ref odA) (C := R_Tx) (T := F_Tx) (N := 19) hx hb hts i_Tx hown hK hP 3 rfl rfl 0 (by decide) (hts _ gw_375) (fun _ h9 => h9) rfl d_Rc_walk_189 ?_
            refine lv_iload_n hx hb d_Rc_walk_192 rfl (lv_at hl 3 rfl) ?_
            refine va_iald hx hb hK hP 4 0 rfl rfl (vp_in_nI (by omega) (by omega)) d_Rc_walk_193 ?_
            rw [show (nI (wkI E no nt k)).toNatClampNeg = (wkI E no nt k) from nI_clamp (by omega)]
            refine lv_topi (fun x_4 ex_4 => ?_)
            obtain rfl : x_4 = nI (OX (wkI E no nt k)) := by rw [ex_4]; first | done | (exact hOX _ n_34)
            refine va_iast hx hb hK hP hD hS 7 0 rfl rfl (vp_in_nI (by omega) (by omega)) d_Rc_walk_194 (fun H locs hP hD hS => ?_)
            rw [show (nI (wkM E no nt k)).toNatClampNeg = (wkM E no nt k) from nI_clamp (by omega)] at hP hD
            have hP : va_P (dC, dI) classes [(h, .inr (6, [.int (nI nt), rc_stock, .ref tx, rc_maker, rc_tape, .int (nI no), rc_file, rc_newAt, rc_newLength, .ref soA, rc_sums, .ref cmA, .ref delA, .int (nI (wkM E no nt k)), .ref kpA, .ref knA, .int (nI (wkL E no nt k))])), (soA, .inl (cI, 400, .inl so)), (cmA, .inl (cI, 40401, .inl cm)), (tx, .inr (10, [.ref odA, tx_length, tx_size, tx_unsure, tx_stranded, tx_dead, tx_stock, tx_changes, tx_lines, tx_loaded, tx_version, tx_loadedFile, tx_rows, tx_slots, tx_total, tx_reach, tx_deleters, tx_gone, tx_waits])), (odA, .inl (cI, 400, .inl od)), (kpA, .inl (cI, 200, .inl kpu)), (knA, .inl (cI, 200, .inl knu)), (delA, .inl (cI, 200, .inl (upd deu (wkM E no nt k) (nI (OX (wkI E no nt k))))))] H := hP
            have hD : va_D A [(h, .inr (6, [.int (nI nt), rc_stock, .ref tx, rc_maker, rc_tape, .int (nI no), rc_file, rc_newAt, rc_newLength, .ref soA, rc_sums, .ref cmA, .ref delA, .int (nI (wkM E no nt k)), .ref kpA, .ref knA, .int (nI (wkL E no nt k))])), (soA, .inl (cI, 400, .inl so)), (cmA, .inl (cI, 40401, .inl cm)), (tx, .inr (10, [.ref odA, tx_length, tx_size, tx_unsure, tx_stranded, tx_dead, tx_stock, tx_changes, tx_lines, tx_loaded, tx_version, tx_loadedFile, tx_rows, tx_slots, tx_total, tx_reach, tx_deleters, tx_gone, tx_waits])), (odA, .inl (cI, 400, .inl od)), (kpA, .inl (cI, 200, .inl kpu)), (knA, .inl (cI, 200, .inl knu)), (delA, .inl (cI, 200, .inl (upd deu (wkM E no nt k) (nI (OX (wkI E no nt k))))))] := hD
            refine lv_aload_n hx hb d_Rc_walk_195 rfl (lv_at hl 2 rfl) ?_
            refine lv_dup hx hb d_Rc_walk_196 rfl ?_
            refine va_get (D := (dC, dI)) (ci := 6) (v := .int (nI (wkM E no nt k))) (C := R_Rc) (T := F_Rc) (N := 17) hx hb hts i_Rc hown hK hP 0 rfl rfl 13 (by decide) (hts _ gw_483) (fun _ h9 => h9) rfl d_Rc_walk_197 ?_
            refine lv_iconst (v := 1) hx hb d_Rc_walk_200 (by decide) ?_
            refine lv_iadd hx hb d_Rc_walk_201 ?_
            refine lv_topi (fun x_5 ex_5 => ?_)
            obtain rfl : x_5 = nI (wkM E no nt k + 1) := by rw [ex_5]; first | done | (exact nI_add _ _)
            refine va_put (D := (dC, dI)) (ci := 6) (v := .int (nI (wkM E no nt k + 1))) (ty := .int) (C := R_Rc) (T := F_Rc) (N := 17) hx hb hts i_Rc t_Rc t_Rc_ok n_Rc hown hK hP hD hS 0 rfl rfl 13 (by decide) (hts _ gw_483) (fun _ h9 => h9) rfl (by decide +kernel) rfl rfl (Nat.le_of_ble_eq_true rfl) d_Rc_walk_202 (fun H locs hP hD hS => ?_)
            have hP : va_P (dC, dI) classes [(h, .inr (6, [.int (nI nt), rc_stock, .ref tx, rc_maker, rc_tape, .int (nI no), rc_file, rc_newAt, rc_newLength, .ref soA, rc_sums, .ref cmA, .ref delA, .int (nI (wkM E no nt k + 1)), .ref kpA, .ref knA, .int (nI (wkL E no nt k))])), (soA, .inl (cI, 400, .inl so)), (cmA, .inl (cI, 40401, .inl cm)), (tx, .inr (10, [.ref odA, tx_length, tx_size, tx_unsure, tx_stranded, tx_dead, tx_stock, tx_changes, tx_lines, tx_loaded, tx_version, tx_loadedFile, tx_rows, tx_slots, tx_total, tx_reach, tx_deleters, tx_gone, tx_waits])), (odA, .inl (cI, 400, .inl od)), (kpA, .inl (cI, 200, .inl kpu)), (knA, .inl (cI, 200, .inl knu)), (delA, .inl (cI, 200, .inl (upd deu (wkM E no nt k) (nI (OX (wkI E no nt k))))))] H := hP
            have hD : va_D A [(h, .inr (6, [.int (nI nt), rc_stock, .ref tx, rc_maker, rc_tape, .int (nI no), rc_file, rc_newAt, rc_newLength, .ref soA, rc_sums, .ref cmA, .ref delA, .int (nI (wkM E no nt k + 1)), .ref kpA, .ref knA, .int (nI (wkL E no nt k))])), (soA, .inl (cI, 400, .inl so)), (cmA, .inl (cI, 40401, .inl cm)), (tx, .inr (10, [.ref odA, tx_length, tx_size, tx_unsure, tx_stranded, tx_dead, tx_stock, tx_changes, tx_lines, tx_loaded, tx_version, tx_loadedFile, tx_rows, tx_slots, tx_total, tx_reach, tx_deleters, tx_gone, tx_waits])), (odA, .inl (cI, 400, .inl od)), (kpA, .inl (cI, 200, .inl kpu)), (knA, .inl (cI, 200, .inl knu)), (delA, .inl (cI, 200, .inl (upd deu (wkM E no nt k) (nI (OX (wkI E no nt k))))))] := hD
            refine lv_iinc (v := nI (wkI E no nt k + 1)) (lv' := [(1, .int (nI (wkI E no nt k + 1))), (5, .int 0), (4, .int 1), (0, .ref h), (2, .int (nI (wkJ E no nt k))), (3, .int (nI k))]) hx hb d_Rc_walk_205 hl (k := 3) rfl (by exact nI_add _ _) (by decide) rfl (fun ls hl => ?_)
            refine lv_goto (tgt := 219) hx hb d_Rc_walk_208 (by decide) ?_
            obtain ⟨he1, he2, he3, he4⟩ := wk_d (E := E) (no := no) (nt := nt) (k := k) n_34 (fun z => absurd z.1 (by omega)) (Or.inl (by omega))
            have e1 : nI (wkI E no nt k + 1) = nI (wkI E no nt (k + 1)) := congrArg nI he1.symm
            have e2 : nI (wkJ E no nt k) = nI (wkJ E no nt (k + 1)) := congrArg nI he2.symm
            rw [e1, e2] at hl
            have e3 : nI (wkL E no nt k) = nI (wkL E no nt (k + 1)) := congrArg nI (by unfold wkL; rw [he3]; first | done | rfl | (rw [List.length_append]; rfl))
            have e4 : nI (wkM E no nt k + 1) = nI (wkM E no nt (k + 1)) := congrArg nI (by unfold wkM; rw [he4]; first | done | rfl | (rw [List.length_append]; rfl))
            rw [e3, e4] at hP hD
            refine lv_iinc (v := nI (k + 1)) (lv' := [(3, .int (nI (k + 1))), (1, .int (nI (wkI E no nt (k + 1)))), (5, .int 0), (4, .int 1), (0, .ref h), (2, .int (nI (wkJ E no nt (k + 1))))]) hx hb d_Rc_walk_219 hl (k := 5) rfl (by exact nI_add _ _) (by decide) rfl (fun ls hl => ?_)
            refine lv_goto (tgt := 16) hx hb d_Rc_walk_222 (by decide) ?_
            exact ih_16 (k + 1) kpu knu (upd deu (wkM E no nt k) (nI (OX (wkI E no nt k)))) _ _ _ (by omega) (by omega) (by rw [he3]; exact hkp) (by rw [he3]; exact hkn) (by rw [he4, List.map_append]; exact hde.pushF _ (List.length_map _).symm) hP hD hS (lv_sub hl [4, 1, 5, 0] rfl)
          · have n_49 : (wkJ E no nt k) < nt := Nat.lt_of_not_le (fun z => c_49 ((nI_leI (a := nt) (b := (wkJ E no nt k)) (by omega) (by omega)).mpr z))
            refine lv_iconst (v := 1) hx hb d_Rc_walk_52 (by decide) ?_
            refine lv_goto (tgt := 57) hx hb d_Rc_walk_53 (by decide) ?_
            refine lv_istore (lv' := [(5, .int 1), (4, .int 1), (0, .ref h), (1, .int (nI (wkI E no nt k))), (2, .int (nI (wkJ E no nt k))), (3, .int (nI k))]) hx hb d_Rc_walk_57 hl (by decide) rfl (fun ls hl => ?_)
            refine lv_iload hx hb d_Rc_walk_59 (lv_at hl 1 rfl) ?_
            refine lv_if_eq (tgt := 136) hx hb d_Rc_walk_61 (by decide) (fun c_61 => absurd c_61 (by decide)) (fun _ => ?_)
            refine lv_iload hx hb d_Rc_walk_64 (lv_at hl 0 rfl) ?_
            refine lv_if_eq (tgt := 136) hx hb d_Rc_walk_66 (by decide) (fun c_66 => absurd c_66 (by decide)) (fun _ => ?_)
            refine lv_aload_n hx hb d_Rc_walk_69 rfl (lv_at hl 2 rfl) ?_
            refine va_get (D := (dC, dI)) (ci := 6) (v := .ref soA) (C := R_Rc) (T := F_Rc) (N := 17) hx hb hts i_Rc hown hK hP 0 rfl rfl 9 (by decide) (hts _ gw_479) (fun _ h9 => h9) rfl d_Rc_walk_70 ?_
            refine lv_iload_n hx hb d_Rc_walk_73 rfl (lv_at hl 3 rfl) ?_
            refine va_iald hx hb hK hP 1 0 rfl rfl (vp_in_nI (by omega) (by omega)) d_Rc_walk_74 ?_
            rw [show (nI (wkI E no nt k)).toNatClampNeg = (wkI E no nt k) from nI_clamp (by omega)]
            refine lv_aload_n hx hb d_Rc_walk_75 rfl (lv_at hl 2 rfl) ?_
            refine va_get (D := (dC, dI)) (ci := 6) (v := .ref soA) (C := R_Rc) (T := F_Rc) (N := 17) hx hb hts i_Rc hown hK hP 0 rfl rfl 9 (by decide) (hts _ gw_479) (fun _ h9 => h9) rfl d_Rc_walk_76 ?_
            refine lv_aload_n hx hb d_Rc_walk_79 rfl (lv_at hl 2 rfl) ?_
            refine va_get (D := (dC, dI)) (ci := 6) (v := .int (nI no)) (C := R_Rc) (T := F_Rc) (N := 17) hx hb hts i_Rc hown hK hP 0 rfl rfl 5 (by decide) (hts _ gw_475) (fun _ h9 => h9) rfl d_Rc_walk_80 ?_
            refine lv_iload_n hx hb d_Rc_walk_83 rfl (lv_at hl 4 rfl) ?_
            refine lv_iadd hx hb d_Rc_walk_84 ?_
            refine lv_topi (fun x_6 ex_6 => ?_)
            obtain rfl : x_6 = nI (no + (wkJ E no nt k)) := by rw [ex_6]; first | done | (exact nI_add _ _)
            refine va_iald hx hb hK hP 1 0 rfl rfl (vp_in_nI (by omega) (by omega)) d_Rc_walk_85 ?_
            rw [show (nI (no + (wkJ E no nt k))).toNatClampNeg = (no + (wkJ E no nt k)) from nI_clamp (by omega)]
            refine lv_icmp_ne (tgt := 136) hx hb d_Rc_walk_86 (by decide) (fun c_86 => ?_) (fun c_86 => ?_)
            · refine lv_iload hx hb d_Rc_walk_136 (lv_at hl 1 rfl) ?_
              refine lv_if_eq (tgt := 211) hx hb d_Rc_walk_138 (by decide) (fun c_138 => absurd c_138 (by decide)) (fun _ => ?_)
              refine lv_iload hx hb d_Rc_walk_141 (lv_at hl 0 rfl) ?_
              refine lv_if_eq (tgt := 177) hx hb d_Rc_walk_143 (by decide) (fun c_143 => absurd c_143 (by decide)) (fun _ => ?_)
              refine lv_aload_n hx hb d_Rc_walk_146 rfl (lv_at hl 2 rfl) ?_
              refine va_get (D := (dC, dI)) (ci := 6) (v := .ref cmA) (C := R_Rc) (T := F_Rc) (N := 17) hx hb hts i_Rc hown hK hP 0 rfl rfl 11 (by decide) (hts _ gw_481) (fun _ h9 => h9) rfl d_Rc_walk_147 ?_
              refine lv_iload_n hx hb d_Rc_walk_150 rfl (lv_at hl 3 rfl) ?_
              refine lv_iconst (v := 1) hx hb d_Rc_walk_151 (by decide) ?_
              refine lv_iadd hx hb d_Rc_walk_152 ?_
              refine lv_topi (fun x_7 ex_7 => ?_)
              obtain rfl : x_7 = nI (wkI E no nt k + 1) := by rw [ex_7]; first | done | (exact nI_add _ _)
              refine lv_sipush (v := 201) hx hb d_Rc_walk_153 (by decide) ?_
              refine lv_imul hx hb d_Rc_walk_156 ?_
              refine lv_topi (fun x_8 ex_8 => ?_)
              obtain rfl : x_8 = nI ((wkI E no nt k + 1) * 201) := by rw [ex_8]; first | done | (exact nI_mul _ _)
              refine lv_iload_n hx hb d_Rc_walk_157 rfl (lv_at hl 4 rfl) ?_
              refine lv_iadd hx hb d_Rc_walk_158 ?_
              refine lv_topi (fun x_9 ex_9 => ?_)
              obtain rfl : x_9 = nI (((wkI E no nt k + 1) * 201) + (wkJ E no nt k)) := by rw [ex_9]; first | done | (exact nI_add _ _)
              refine va_iald hx hb hK hP 2 0 rfl rfl (vp_in_nI (by omega) (by omega)) d_Rc_walk_159 ?_
              rw [show (nI (((wkI E no nt k + 1) * 201) + (wkJ E no nt k))).toNatClampNeg = (((wkI E no nt k + 1) * 201) + (wkJ E no nt k)) from nI_clamp (by omega)]
              refine lv_topi (fun x_10 ex_10 => ?_)
              obtain rfl : x_10 = nI (lcM E no nt (wkI E no nt k + 1) (wkJ E no nt k)) := by rw [ex_10]; first | done | (exact hcm _ (Nat.zero_le _) (by omega) _ (by omega))
              refine lv_aload_n hx hb d_Rc_walk_160 rfl (lv_at hl 2 rfl) ?_
              refine va_get (D := (dC, dI)) (ci := 6) (v := .ref cmA) (C := R_Rc) (T := F_Rc) (N := 17) hx hb hts i_Rc hown hK hP 0 rfl rfl 11 (by decide) (hts _ gw_481) (fun _ h9 => h9) rfl d_Rc_walk_161 ?_
              refine lv_iload_n hx hb d_Rc_walk_164 rfl (lv_at hl 3 rfl) ?_
              refine lv_sipush (v := 201) hx hb d_Rc_walk_165 (by decide) ?_
              refine lv_imul hx hb d_Rc_walk_168 ?_
              refine lv_topi (fun x_11 ex_11 => ?_)
              obtain rfl : x_11 = nI ((wkI E no nt k) * 201) := by rw [ex_11]; first | done | (exact nI_mul _ _)
              refine lv_iload_n hx hb d_Rc_walk_169 rfl (lv_at hl 4 rfl) ?_
              refine lv_iadd hx hb d_Rc_walk_170 ?_
              refine lv_topi (fun x_12 ex_12 => ?_)
              obtain rfl : x_12 = nI (((wkI E no nt k) * 201) + (wkJ E no nt k)) := by rw [ex_12]; first | done | (exact nI_add _ _)
              refine lv_iconst (v := 1) hx hb d_Rc_walk_171 (by decide) ?_
              refine lv_iadd hx hb d_Rc_walk_172 ?_
              refine lv_topi (fun x_13 ex_13 => ?_)
              obtain rfl : x_13 = nI ((((wkI E no nt k) * 201) + (wkJ E no nt k)) + 1) := by rw [ex_13]; first | done | (exact nI_add _ _)
              refine va_iald hx hb hK hP 2 0 rfl rfl (vp_in_nI (by omega) (by omega)) d_Rc_walk_173 ?_
              rw [show (nI ((((wkI E no nt k) * 201) + (wkJ E no nt k)) + 1)).toNatClampNeg = ((((wkI E no nt k) * 201) + (wkJ E no nt k)) + 1) from nI_clamp (by omega)]
              refine lv_topi (fun x_14 ex_14 => ?_)
              obtain rfl : x_14 = nI (lcM E no nt (wkI E no nt k) (wkJ E no nt k + 1)) := by rw [ex_14]; first | done | (rw [Nat.add_assoc]; exact hcm _ (Nat.zero_le _) (by omega) _ (by omega))
              have hl1 := lcM_le E no nt (wkI E no nt k + 1) (wkJ E no nt k)
              have hl2 := lcM_le E no nt (wkI E no nt k) (wkJ E no nt k + 1)
              refine lv_icmp_lt (tgt := 211) hx hb d_Rc_walk_174 (by decide) (fun c_174 => ?_) (fun c_174 => ?_)
              · have n_174 : (lcM E no nt (wkI E no nt k + 1) (wkJ E no nt k)) < (lcM E no nt (wkI E no nt k) (wkJ E no nt k + 1)) := (nI_ltI (a := (lcM E no nt (wkI E no nt k + 1) (wkJ E no nt k))) (b := (lcM E no nt (wkI E no nt k) (wkJ E no nt k + 1))) (by omega) (by omega)).mp c_174
                refine lv_iload hx hb d_Rc_walk_211 (lv_at hl 0 rfl) ?_
                refine lv_if_eq (tgt := 219) hx hb d_Rc_walk_213 (by decide) (fun c_213 => absurd c_213 (by decide)) (fun _ => ?_)
                refine lv_iinc (v := nI (wkJ E no nt k + 1)) (lv' := [(2, .int (nI (wkJ E no nt k + 1))), (5, .int 1), (4, .int 1), (0, .ref h), (1, .int (nI (wkI E no nt k))), (3, .int (nI k))]) hx hb d_Rc_walk_216 hl (k := 4) rfl (by exact nI_add _ _) (by decide) rfl (fun ls hl => ?_)
                obtain ⟨he1, he2, he3, he4⟩ := wk_n (E := E) (no := no) (nt := nt) (k := k) (fun z => c_86 ((hE _ _ n_34 n_49).mpr z.2)) (fun z => z.2.elim (fun y => y n_49) (fun y => absurd y (by omega))) n_49
                have e1 : nI (wkI E no nt k) = nI (wkI E no nt (k + 1)) := congrArg nI he1.symm
                have e2 : nI (wkJ E no nt k + 1) = nI (wkJ E no nt (k + 1)) := congrArg nI he2.symm
                rw [e1, e2] at hl
                have e3 : nI (wkL E no nt k) = nI (wkL E no nt (k + 1)) := congrArg nI (by unfold wkL; rw [he3]; first | done | rfl | (rw [List.length_append]; rfl))
                have e4 : nI (wkM E no nt k) = nI (wkM E no nt (k + 1)) := congrArg nI (by unfold wkM; rw [he4]; first | done | rfl | (rw [List.length_append]; rfl))
                rw [e3, e4] at hP hD
                refine lv_iinc (v := nI (k + 1)) (lv' := [(3, .int (nI (k + 1))), (2, .int (nI (wkJ E no nt (k + 1)))), (5, .int 1), (4, .int 1), (0, .ref h), (1, .int (nI (wkI E no nt (k + 1))))]) hx hb d_Rc_walk_219 hl (k := 5) rfl (by exact nI_add _ _) (by decide) rfl (fun ls hl => ?_)
                refine lv_goto (tgt := 16) hx hb d_Rc_walk_222 (by decide) ?_
                exact ih_16 (k + 1) kpu knu deu _ _ _ (by omega) (by omega) (by rw [he3]; exact hkp) (by rw [he3]; exact hkn) (by rw [he4]; exact hde) hP hD hS (lv_sub hl [4, 5, 1, 0] rfl)
              · have n_174 : (lcM E no nt (wkI E no nt k) (wkJ E no nt k + 1)) ≤ (lcM E no nt (wkI E no nt k + 1) (wkJ E no nt k)) := Nat.le_of_not_lt (fun z => c_174 ((nI_ltI (a := (lcM E no nt (wkI E no nt k + 1) (wkJ E no nt k))) (b := (lcM E no nt (wkI E no nt k) (wkJ E no nt k + 1))) (by omega) (by omega)).mpr z))
                refine lv_aload_n hx hb d_Rc_walk_177 rfl (lv_at hl 2 rfl) ?_
                refine va_get (D := (dC, dI)) (ci := 6) (v := .ref delA) (C := R_Rc) (T := F_Rc) (N := 17) hx hb hts i_Rc hown hK hP 0 rfl rfl 12 (by decide) (hts _ gw_482) (fun _ h9 => h9) rfl d_Rc_walk_178 ?_
                refine lv_aload_n hx hb d_Rc_walk_181 rfl (lv_at hl 2 rfl) ?_
                refine va_get (D := (dC, dI)) (ci := 6) (v := .int (nI (wkM E no nt k))) (C := R_Rc) (T := F_Rc) (N := 17) hx hb hts i_Rc hown hK hP 0 rfl rfl 13 (by decide) (hts _ gw_483) (fun _ h9 => h9) rfl d_Rc_walk_182 ?_
                refine lv_aload_n hx hb d_Rc_walk_185 rfl (lv_at hl 2 rfl) ?_
                refine va_get (D := (dC, dI)) (ci := 6) (v := .ref tx) (C := R_Rc) (T := F_Rc) (N := 17) hx hb hts i_Rc hown hK hP 0 rfl rfl 2 (by decide) (hts _ gw_472) (fun _ h9 => h9) rfl d_Rc_walk_186 ?_
                refine va_get (D := (dC, dI)) (ci := 10) (v := .ref odA) (C := R_Tx) (T := F_Tx) (N := 19) hx hb hts i_Tx hown hK hP 3 rfl rfl 0 (by decide) (hts _ gw_375) (fun _ h9 => h9) rfl d_Rc_walk_189 ?_
                refine lv_iload_n hx hb d_Rc_walk_192 rfl (lv_at hl 3 rfl) ?_
                refine va_iald hx hb hK hP 4 0 rfl rfl (vp_in_nI (by omega) (by omega)) d_Rc_walk_193 ?_
                rw [show (nI (wkI E no nt k)).toNatClampNeg = (wkI E no nt k) from nI_clamp (by omega)]
                refine lv_topi (fun x_15 ex_15 => ?_)
                obtain rfl : x_15 = nI (OX (wkI E no nt k)) := by rw [ex_15]; first | done | (exact hOX _ n_34)
                refine va_iast hx hb hK hP hD hS 7 0 rfl rfl (vp_in_nI (by omega) (by omega)) d_Rc_walk_194 (fun H locs hP hD hS => ?_)
                rw [show (nI (wkM E no nt k)).toNatClampNeg = (wkM E no nt k) from nI_clamp (by omega)] at hP hD
                have hP : va_P (dC, dI) classes [(h, .inr (6, [.int (nI nt), rc_stock, .ref tx, rc_maker, rc_tape, .int (nI no), rc_file, rc_newAt, rc_newLength, .ref soA, rc_sums, .ref cmA, .ref delA, .int (nI (wkM E no nt k)), .ref kpA, .ref knA, .int (nI (wkL E no nt k))])), (soA, .inl (cI, 400, .inl so)), (cmA, .inl (cI, 40401, .inl cm)), (tx, .inr (10, [.ref odA, tx_length, tx_size, tx_unsure, tx_stranded, tx_dead, tx_stock, tx_changes, tx_lines, tx_loaded, tx_version, tx_loadedFile, tx_rows, tx_slots, tx_total, tx_reach, tx_deleters, tx_gone, tx_waits])), (odA, .inl (cI, 400, .inl od)), (kpA, .inl (cI, 200, .inl kpu)), (knA, .inl (cI, 200, .inl knu)), (delA, .inl (cI, 200, .inl (upd deu (wkM E no nt k) (nI (OX (wkI E no nt k))))))] H := hP
                have hD : va_D A [(h, .inr (6, [.int (nI nt), rc_stock, .ref tx, rc_maker, rc_tape, .int (nI no), rc_file, rc_newAt, rc_newLength, .ref soA, rc_sums, .ref cmA, .ref delA, .int (nI (wkM E no nt k)), .ref kpA, .ref knA, .int (nI (wkL E no nt k))])), (soA, .inl (cI, 400, .inl so)), (cmA, .inl (cI, 40401, .inl cm)), (tx, .inr (10, [.ref odA, tx_length, tx_size, tx_unsure, tx_stranded, tx_dead, tx_stock, tx_changes, tx_lines, tx_loaded, tx_version, tx_loadedFile, tx_rows, tx_slots, tx_total, tx_reach, tx_deleters, tx_gone, tx_waits])), (odA, .inl (cI, 400, .inl od)), (kpA, .inl (cI, 200, .inl kpu)), (knA, .inl (cI, 200, .inl knu)), (delA, .inl (cI, 200, .inl (upd deu (wkM E no nt k) (nI (OX (wkI E no nt k))))))] := hD
                refine lv_aload_n hx hb d_Rc_walk_195 rfl (lv_at hl 2 rfl) ?_
                refine lv_dup hx hb d_Rc_walk_196 rfl ?_
                refine va_get (D := (dC, dI)) (ci := 6) (v := .int (nI (wkM E no nt k))) (C := R_Rc) (T := F_Rc) (N := 17) hx hb hts i_Rc hown hK hP 0 rfl rfl 13 (by decide) (hts _ gw_483) (fun _ h9 => h9) rfl d_Rc_walk_197 ?_
                refine lv_iconst (v := 1) hx hb d_Rc_walk_200 (by decide) ?_
                refine lv_iadd hx hb d_Rc_walk_201 ?_
                refine lv_topi (fun x_16 ex_16 => ?_)
                obtain rfl : x_16 = nI (wkM E no nt k + 1) := by rw [ex_16]; first | done | (exact nI_add _ _)
                refine va_put (D := (dC, dI)) (ci := 6) (v := .int (nI (wkM E no nt k + 1))) (ty := .int) (C := R_Rc) (T := F_Rc) (N := 17) hx hb hts i_Rc t_Rc t_Rc_ok n_Rc hown hK hP hD hS 0 rfl rfl 13 (by decide) (hts _ gw_483) (fun _ h9 => h9) rfl (by decide +kernel) rfl rfl (Nat.le_of_ble_eq_true rfl) d_Rc_walk_202 (fun H locs hP hD hS => ?_)
                have hP : va_P (dC, dI) classes [(h, .inr (6, [.int (nI nt), rc_stock, .ref tx, rc_maker, rc_tape, .int (nI no), rc_file, rc_newAt, rc_newLength, .ref soA, rc_sums, .ref cmA, .ref delA, .int (nI (wkM E no nt k + 1)), .ref kpA, .ref knA, .int (nI (wkL E no nt k))])), (soA, .inl (cI, 400, .inl so)), (cmA, .inl (cI, 40401, .inl cm)), (tx, .inr (10, [.ref odA, tx_length, tx_size, tx_unsure, tx_stranded, tx_dead, tx_stock, tx_changes, tx_lines, tx_loaded, tx_version, tx_loadedFile, tx_rows, tx_slots, tx_total, tx_reach, tx_deleters, tx_gone, tx_waits])), (odA, .inl (cI, 400, .inl od)), (kpA, .inl (cI, 200, .inl kpu)), (knA, .inl (cI, 200, .inl knu)), (delA, .inl (cI, 200, .inl (upd deu (wkM E no nt k) (nI (OX (wkI E no nt k))))))] H := hP
                have hD : va_D A [(h, .inr (6, [.int (nI nt), rc_stock, .ref tx, rc_maker, rc_tape, .int (nI no), rc_file, rc_newAt, rc_newLength, .ref soA, rc_sums, .ref cmA, .ref delA, .int (nI (wkM E no nt k + 1)), .ref kpA, .ref knA, .int (nI (wkL E no nt k))])), (soA, .inl (cI, 400, .inl so)), (cmA, .inl (cI, 40401, .inl cm)), (tx, .inr (10, [.ref odA, tx_length, tx_size, tx_unsure, tx_stranded, tx_dead, tx_stock, tx_changes, tx_lines, tx_loaded, tx_version, tx_loadedFile, tx_rows, tx_slots, tx_total, tx_reach, tx_deleters, tx_gone, tx_waits])), (odA, .inl (cI, 400, .inl od)), (kpA, .inl (cI, 200, .inl kpu)), (knA, .inl (cI, 200, .inl knu)), (delA, .inl (cI, 200, .inl (upd deu (wkM E no nt k) (nI (OX (wkI E no nt k))))))] := hD
                refine lv_iinc (v := nI (wkI E no nt k + 1)) (lv' := [(1, .int (nI (wkI E no nt k + 1))), (5, .int 1), (4, .int 1), (0, .ref h), (2, .int (nI (wkJ E no nt k))), (3, .int (nI k))]) hx hb d_Rc_walk_205 hl (k := 3) rfl (by exact nI_add _ _) (by decide) rfl (fun ls hl => ?_)
                refine lv_goto (tgt := 219) hx hb d_Rc_walk_208 (by decide) ?_
                obtain ⟨he1, he2, he3, he4⟩ := wk_d (E := E) (no := no) (nt := nt) (k := k) n_34 (fun z => c_86 ((hE _ _ n_34 n_49).mpr z.2)) (Or.inr n_174)
                have e1 : nI (wkI E no nt k + 1) = nI (wkI E no nt (k + 1)) := congrArg nI he1.symm
                have e2 : nI (wkJ E no nt k) = nI (wkJ E no nt (k + 1)) := congrArg nI he2.symm
                rw [e1, e2] at hl
                have e3 : nI (wkL E no nt k) = nI (wkL E no nt (k + 1)) := congrArg nI (by unfold wkL; rw [he3]; first | done | rfl | (rw [List.length_append]; rfl))
                have e4 : nI (wkM E no nt k + 1) = nI (wkM E no nt (k + 1)) := congrArg nI (by unfold wkM; rw [he4]; first | done | rfl | (rw [List.length_append]; rfl))
                rw [e3, e4] at hP hD
                refine lv_iinc (v := nI (k + 1)) (lv' := [(3, .int (nI (k + 1))), (1, .int (nI (wkI E no nt (k + 1)))), (5, .int 1), (4, .int 1), (0, .ref h), (2, .int (nI (wkJ E no nt (k + 1))))]) hx hb d_Rc_walk_219 hl (k := 5) rfl (by exact nI_add _ _) (by decide) rfl (fun ls hl => ?_)
                refine lv_goto (tgt := 16) hx hb d_Rc_walk_222 (by decide) ?_
                exact ih_16 (k + 1) kpu knu (upd deu (wkM E no nt k) (nI (OX (wkI E no nt k)))) _ _ _ (by omega) (by omega) (by rw [he3]; exact hkp) (by rw [he3]; exact hkn) (by rw [he4, List.map_append]; exact hde.pushF _ (List.length_map _).symm) hP hD hS (lv_sub hl [4, 1, 5, 0] rfl)
            · refine lv_aload_n hx hb d_Rc_walk_89 rfl (lv_at hl 2 rfl) ?_
              refine va_get (D := (dC, dI)) (ci := 6) (v := .ref kpA) (C := R_Rc) (T := F_Rc) (N := 17) hx hb hts i_Rc hown hK hP 0 rfl rfl 14 (by decide) (hts _ gw_484) (fun _ h9 => h9) rfl d_Rc_walk_90 ?_
              refine lv_aload_n hx hb d_Rc_walk_93 rfl (lv_at hl 2 rfl) ?_
              refine va_get (D := (dC, dI)) (ci := 6) (v := .int (nI (wkL E no nt k))) (C := R_Rc) (T := F_Rc) (N := 17) hx hb hts i_Rc hown hK hP 0 rfl rfl 16 (by decide) (hts _ gw_486) (fun _ h9 => h9) rfl d_Rc_walk_94 ?_
              refine lv_aload_n hx hb d_Rc_walk_97 rfl (lv_at hl 2 rfl) ?_
              refine va_get (D := (dC, dI)) (ci := 6) (v := .ref tx) (C := R_Rc) (T := F_Rc) (N := 17) hx hb hts i_Rc hown hK hP 0 rfl rfl 2 (by decide) (hts _ gw_472) (fun _ h9 => h9) rfl d_Rc_walk_98 ?_
              refine va_get (D := (dC, dI)) (ci := 10) (v := .ref odA) (C := R_Tx) (T := F_Tx) (N := 19) hx hb hts i_Tx hown hK hP 3 rfl rfl 0 (by decide) (hts _ gw_375) (fun _ h9 => h9) rfl d_Rc_walk_101 ?_
              refine lv_iload_n hx hb d_Rc_walk_104 rfl (lv_at hl 3 rfl) ?_
              refine va_iald hx hb hK hP 4 0 rfl rfl (vp_in_nI (by omega) (by omega)) d_Rc_walk_105 ?_
              rw [show (nI (wkI E no nt k)).toNatClampNeg = (wkI E no nt k) from nI_clamp (by omega)]
              refine lv_topi (fun x_17 ex_17 => ?_)
              obtain rfl : x_17 = nI (OX (wkI E no nt k)) := by rw [ex_17]; first | done | (exact hOX _ n_34)
              refine va_iast hx hb hK hP hD hS 5 0 rfl rfl (vp_in_nI (by omega) (by omega)) d_Rc_walk_106 (fun H locs hP hD hS => ?_)
              rw [show (nI (wkL E no nt k)).toNatClampNeg = (wkL E no nt k) from nI_clamp (by omega)] at hP hD
              have hP : va_P (dC, dI) classes [(h, .inr (6, [.int (nI nt), rc_stock, .ref tx, rc_maker, rc_tape, .int (nI no), rc_file, rc_newAt, rc_newLength, .ref soA, rc_sums, .ref cmA, .ref delA, .int (nI (wkM E no nt k)), .ref kpA, .ref knA, .int (nI (wkL E no nt k))])), (soA, .inl (cI, 400, .inl so)), (cmA, .inl (cI, 40401, .inl cm)), (tx, .inr (10, [.ref odA, tx_length, tx_size, tx_unsure, tx_stranded, tx_dead, tx_stock, tx_changes, tx_lines, tx_loaded, tx_version, tx_loadedFile, tx_rows, tx_slots, tx_total, tx_reach, tx_deleters, tx_gone, tx_waits])), (odA, .inl (cI, 400, .inl od)), (kpA, .inl (cI, 200, .inl (upd kpu (wkL E no nt k) (nI (OX (wkI E no nt k)))))), (knA, .inl (cI, 200, .inl knu)), (delA, .inl (cI, 200, .inl deu))] H := hP
              have hD : va_D A [(h, .inr (6, [.int (nI nt), rc_stock, .ref tx, rc_maker, rc_tape, .int (nI no), rc_file, rc_newAt, rc_newLength, .ref soA, rc_sums, .ref cmA, .ref delA, .int (nI (wkM E no nt k)), .ref kpA, .ref knA, .int (nI (wkL E no nt k))])), (soA, .inl (cI, 400, .inl so)), (cmA, .inl (cI, 40401, .inl cm)), (tx, .inr (10, [.ref odA, tx_length, tx_size, tx_unsure, tx_stranded, tx_dead, tx_stock, tx_changes, tx_lines, tx_loaded, tx_version, tx_loadedFile, tx_rows, tx_slots, tx_total, tx_reach, tx_deleters, tx_gone, tx_waits])), (odA, .inl (cI, 400, .inl od)), (kpA, .inl (cI, 200, .inl (upd kpu (wkL E no nt k) (nI (OX (wkI E no nt k)))))), (knA, .inl (cI, 200, .inl knu)), (delA, .inl (cI, 200, .inl deu))] := hD
              refine lv_aload_n hx hb d_Rc_walk_107 rfl (lv_at hl 2 rfl) ?_
              refine va_get (D := (dC, dI)) (ci := 6) (v := .ref knA) (C := R_Rc) (T := F_Rc) (N := 17) hx hb hts i_Rc hown hK hP 0 rfl rfl 15 (by decide) (hts _ gw_485) (fun _ h9 => h9) rfl d_Rc_walk_108 ?_
              refine lv_aload_n hx hb d_Rc_walk_111 rfl (lv_at hl 2 rfl) ?_
              refine va_get (D := (dC, dI)) (ci := 6) (v := .int (nI (wkL E no nt k))) (C := R_Rc) (T := F_Rc) (N := 17) hx hb hts i_Rc hown hK hP 0 rfl rfl 16 (by decide) (hts _ gw_486) (fun _ h9 => h9) rfl d_Rc_walk_112 ?_
              refine lv_iload_n hx hb d_Rc_walk_115 rfl (lv_at hl 4 rfl) ?_
              refine va_iast hx hb hK hP hD hS 6 0 rfl rfl (vp_in_nI (by omega) (by omega)) d_Rc_walk_116 (fun H locs hP hD hS => ?_)
              rw [show (nI (wkL E no nt k)).toNatClampNeg = (wkL E no nt k) from nI_clamp (by omega)] at hP hD
              have hP : va_P (dC, dI) classes [(h, .inr (6, [.int (nI nt), rc_stock, .ref tx, rc_maker, rc_tape, .int (nI no), rc_file, rc_newAt, rc_newLength, .ref soA, rc_sums, .ref cmA, .ref delA, .int (nI (wkM E no nt k)), .ref kpA, .ref knA, .int (nI (wkL E no nt k))])), (soA, .inl (cI, 400, .inl so)), (cmA, .inl (cI, 40401, .inl cm)), (tx, .inr (10, [.ref odA, tx_length, tx_size, tx_unsure, tx_stranded, tx_dead, tx_stock, tx_changes, tx_lines, tx_loaded, tx_version, tx_loadedFile, tx_rows, tx_slots, tx_total, tx_reach, tx_deleters, tx_gone, tx_waits])), (odA, .inl (cI, 400, .inl od)), (kpA, .inl (cI, 200, .inl (upd kpu (wkL E no nt k) (nI (OX (wkI E no nt k)))))), (knA, .inl (cI, 200, .inl (upd knu (wkL E no nt k) (nI (wkJ E no nt k))))), (delA, .inl (cI, 200, .inl deu))] H := hP
              have hD : va_D A [(h, .inr (6, [.int (nI nt), rc_stock, .ref tx, rc_maker, rc_tape, .int (nI no), rc_file, rc_newAt, rc_newLength, .ref soA, rc_sums, .ref cmA, .ref delA, .int (nI (wkM E no nt k)), .ref kpA, .ref knA, .int (nI (wkL E no nt k))])), (soA, .inl (cI, 400, .inl so)), (cmA, .inl (cI, 40401, .inl cm)), (tx, .inr (10, [.ref odA, tx_length, tx_size, tx_unsure, tx_stranded, tx_dead, tx_stock, tx_changes, tx_lines, tx_loaded, tx_version, tx_loadedFile, tx_rows, tx_slots, tx_total, tx_reach, tx_deleters, tx_gone, tx_waits])), (odA, .inl (cI, 400, .inl od)), (kpA, .inl (cI, 200, .inl (upd kpu (wkL E no nt k) (nI (OX (wkI E no nt k)))))), (knA, .inl (cI, 200, .inl (upd knu (wkL E no nt k) (nI (wkJ E no nt k))))), (delA, .inl (cI, 200, .inl deu))] := hD
              refine lv_aload_n hx hb d_Rc_walk_117 rfl (lv_at hl 2 rfl) ?_
              refine lv_dup hx hb d_Rc_walk_118 rfl ?_
              refine va_get (D := (dC, dI)) (ci := 6) (v := .int (nI (wkL E no nt k))) (C := R_Rc) (T := F_Rc) (N := 17) hx hb hts i_Rc hown hK hP 0 rfl rfl 16 (by decide) (hts _ gw_486) (fun _ h9 => h9) rfl d_Rc_walk_119 ?_
              refine lv_iconst (v := 1) hx hb d_Rc_walk_122 (by decide) ?_
              refine lv_iadd hx hb d_Rc_walk_123 ?_
              refine lv_topi (fun x_18 ex_18 => ?_)
              obtain rfl : x_18 = nI (wkL E no nt k + 1) := by rw [ex_18]; first | done | (exact nI_add _ _)
              refine va_put (D := (dC, dI)) (ci := 6) (v := .int (nI (wkL E no nt k + 1))) (ty := .int) (C := R_Rc) (T := F_Rc) (N := 17) hx hb hts i_Rc t_Rc t_Rc_ok n_Rc hown hK hP hD hS 0 rfl rfl 16 (by decide) (hts _ gw_486) (fun _ h9 => h9) rfl (by decide +kernel) rfl rfl (Nat.le_of_ble_eq_true rfl) d_Rc_walk_124 (fun H locs hP hD hS => ?_)
              have hP : va_P (dC, dI) classes [(h, .inr (6, [.int (nI nt), rc_stock, .ref tx, rc_maker, rc_tape, .int (nI no), rc_file, rc_newAt, rc_newLength, .ref soA, rc_sums, .ref cmA, .ref delA, .int (nI (wkM E no nt k)), .ref kpA, .ref knA, .int (nI (wkL E no nt k + 1))])), (soA, .inl (cI, 400, .inl so)), (cmA, .inl (cI, 40401, .inl cm)), (tx, .inr (10, [.ref odA, tx_length, tx_size, tx_unsure, tx_stranded, tx_dead, tx_stock, tx_changes, tx_lines, tx_loaded, tx_version, tx_loadedFile, tx_rows, tx_slots, tx_total, tx_reach, tx_deleters, tx_gone, tx_waits])), (odA, .inl (cI, 400, .inl od)), (kpA, .inl (cI, 200, .inl (upd kpu (wkL E no nt k) (nI (OX (wkI E no nt k)))))), (knA, .inl (cI, 200, .inl (upd knu (wkL E no nt k) (nI (wkJ E no nt k))))), (delA, .inl (cI, 200, .inl deu))] H := hP
              have hD : va_D A [(h, .inr (6, [.int (nI nt), rc_stock, .ref tx, rc_maker, rc_tape, .int (nI no), rc_file, rc_newAt, rc_newLength, .ref soA, rc_sums, .ref cmA, .ref delA, .int (nI (wkM E no nt k)), .ref kpA, .ref knA, .int (nI (wkL E no nt k + 1))])), (soA, .inl (cI, 400, .inl so)), (cmA, .inl (cI, 40401, .inl cm)), (tx, .inr (10, [.ref odA, tx_length, tx_size, tx_unsure, tx_stranded, tx_dead, tx_stock, tx_changes, tx_lines, tx_loaded, tx_version, tx_loadedFile, tx_rows, tx_slots, tx_total, tx_reach, tx_deleters, tx_gone, tx_waits])), (odA, .inl (cI, 400, .inl od)), (kpA, .inl (cI, 200, .inl (upd kpu (wkL E no nt k) (nI (OX (wkI E no nt k)))))), (knA, .inl (cI, 200, .inl (upd knu (wkL E no nt k) (nI (wkJ E no nt k))))), (delA, .inl (cI, 200, .inl deu))] := hD
              refine lv_iinc (v := nI (wkI E no nt k + 1)) (lv' := [(1, .int (nI (wkI E no nt k + 1))), (5, .int 1), (4, .int 1), (0, .ref h), (2, .int (nI (wkJ E no nt k))), (3, .int (nI k))]) hx hb d_Rc_walk_127 hl (k := 3) rfl (by exact nI_add _ _) (by decide) rfl (fun ls hl => ?_)
              refine lv_iinc (v := nI (wkJ E no nt k + 1)) (lv' := [(2, .int (nI (wkJ E no nt k + 1))), (1, .int (nI (wkI E no nt k + 1))), (5, .int 1), (4, .int 1), (0, .ref h), (3, .int (nI k))]) hx hb d_Rc_walk_130 hl (k := 4) rfl (by exact nI_add _ _) (by decide) rfl (fun ls hl => ?_)
              refine lv_goto (tgt := 219) hx hb d_Rc_walk_133 (by decide) ?_
              obtain ⟨he1, he2, he3, he4⟩ := wk_e (E := E) (no := no) (nt := nt) (k := k) n_34 n_49 ((hE _ _ n_34 n_49).mp c_86)
              have e1 : nI (wkI E no nt k + 1) = nI (wkI E no nt (k + 1)) := congrArg nI he1.symm
              have e2 : nI (wkJ E no nt k + 1) = nI (wkJ E no nt (k + 1)) := congrArg nI he2.symm
              rw [e1, e2] at hl
              have e3 : nI (wkL E no nt k + 1) = nI (wkL E no nt (k + 1)) := congrArg nI (by unfold wkL; rw [he3]; first | done | rfl | (rw [List.length_append]; rfl))
              have e4 : nI (wkM E no nt k) = nI (wkM E no nt (k + 1)) := congrArg nI (by unfold wkM; rw [he4]; first | done | rfl | (rw [List.length_append]; rfl))
              rw [e3, e4] at hP hD
              refine lv_iinc (v := nI (k + 1)) (lv' := [(3, .int (nI (k + 1))), (2, .int (nI (wkJ E no nt (k + 1)))), (1, .int (nI (wkI E no nt (k + 1)))), (5, .int 1), (4, .int 1), (0, .ref h)]) hx hb d_Rc_walk_219 hl (k := 5) rfl (by exact nI_add _ _) (by decide) rfl (fun ls hl => ?_)
              refine lv_goto (tgt := 16) hx hb d_Rc_walk_222 (by decide) ?_
              exact ih_16 (k + 1) (upd kpu (wkL E no nt k) (nI (OX (wkI E no nt k)))) (upd knu (wkL E no nt k) (nI (wkJ E no nt k))) deu _ _ _ (by omega) (by omega) (by rw [he3, List.map_append]; exact hkp.pushF _ (List.length_map _).symm) (by rw [he3, List.map_append]; exact hkn.pushF _ (List.length_map _).symm) (by rw [he4]; exact hde) hP hD hS (lv_sub hl [5, 2, 1, 0] rfl)
  exact loop_16 _ 0 kp kn de _ _ _ (Nat.lt_succ_self _) (Nat.zero_le _) (arrL.nil _) (arrL.nil _) (arrL.nil _) hP hD hS (lv_sub hl [3, 2, 1, 0] rfl)
