/-! 61.named.lean.txt -/
theorem gw_102 : (Jvm.Cond.fieldLink "PatchStore$Intake" (157 : Nat) "PatchStore$Changes" "file" "[I") ∈ xg_1 := xg_s1 102 rfl rfl
theorem gw_200 : (Jvm.Cond.fieldLink "PatchStore$Intake" (151 : Nat) "PatchStore$Stock" "firstChange" "[I") ∈ xg_1 := xg_s1 200 rfl rfl
theorem gw_884 : (Jvm.Cond.methodLink "PatchStore$Intake" (182 : Nat) ({ cls := "PatchStore$Intake", name := "changeNamed", desc := "(II)I" } : Jvm.MethodName)) ∈ xg_1 := xg_s4 164 rfl rfl
theorem gw_886 : (Jvm.Cond.instanceMethod ({ cls := "PatchStore$Intake", name := "changeNamed", desc := "(II)I" } : Jvm.MethodName)) ∈ xg_1 := xg_s4 166 rfl rfl
theorem gw_887 : (Jvm.Cond.code ({ cls := "PatchStore$Intake", name := "changeNamed", desc := "(II)I" } : Jvm.MethodName) prog_4_method_11_code (7 : Nat) (Option.some Jvm.ClassFile.FieldType.int)) ∈ xg_1 := xg_s4 167 rfl rfl
theorem gw_888 : (Jvm.Cond.constant "PatchStore$Intake" (204 : Nat) (65535 : Int32)) ∈ xg_1 := xg_s4 168 rfl rfl
theorem gw_889 : (Jvm.Cond.methodLink "PatchStore$Intake" (205 : Nat) ({ cls := "PatchStore$Stock", name := "kind", desc := "(I)I" } : Jvm.MethodName)) ∈ xg_1 := xg_s4 169 rfl rfl
theorem gw_918 : (Jvm.Cond.methodLink "PatchStore$Intake" (198 : Nat) ({ cls := "PatchStore$Stock", name := "linesAt", desc := "(I)I" } : Jvm.MethodName)) ∈ xg_1 := xg_s4 198 rfl rfl
theorem gw_919 : (Jvm.Cond.instanceMethod ({ cls := "PatchStore$Stock", name := "linesAt", desc := "(I)I" } : Jvm.MethodName)) ∈ xg_1 := xg_s4 199 rfl rfl
theorem gw_920 : (Jvm.Cond.selects "PatchStore$Stock" ({ cls := "PatchStore$Stock", name := "linesAt", desc := "(I)I" } : Jvm.MethodName) ({ cls := "PatchStore$Stock", name := "linesAt", desc := "(I)I" } : Jvm.MethodName)) ∈ xg_1 := xg_s4 200 rfl rfl
theorem gw_921 : (Jvm.Cond.code ({ cls := "PatchStore$Stock", name := "linesAt", desc := "(I)I" } : Jvm.MethodName) prog_10_method_8_code (3 : Nat) (Option.some Jvm.ClassFile.FieldType.int)) ∈ xg_1 := xg_s4 201 rfl rfl
def y_In_isAmong : MethodName := ⟨"PatchStore$Intake", "isAmong", "(III)Z"⟩
abbrev c_In_isAmong : Cond := (Jvm.Cond.code ({ cls := "PatchStore$Intake", name := "isAmong", desc := "(III)Z" } : Jvm.MethodName) prog_4_method_8_code (6 : Nat) (Option.some Jvm.ClassFile.FieldType.boolean))
abbrev ws_In_isAmong : List Cond := c_In_isAmong :: xg_1
theorem d_In_isAmong_0 : decode prog_4_method_8_code 0 = .ok (.iconst 0, 1) := by decide +kernel
theorem d_In_isAmong_1 : decode prog_4_method_8_code 1 = .ok (.istore 4, 2) := by decide +kernel
theorem d_In_isAmong_3 : decode prog_4_method_8_code 3 = .ok (.iload 4, 2) := by decide +kernel
theorem d_In_isAmong_5 : decode prog_4_method_8_code 5 = .ok (.iload_n 3, 1) := by decide +kernel
theorem d_In_isAmong_6 : decode prog_4_method_8_code 6 = .ok (.if_icmp .ge 63, 3) := by decide +kernel
theorem d_In_isAmong_9 : decode prog_4_method_8_code 9 = .ok (.iload_n 2, 1) := by decide +kernel
theorem d_In_isAmong_10 : decode prog_4_method_8_code 10 = .ok (.iconst 4, 1) := by decide +kernel
theorem d_In_isAmong_11 : decode prog_4_method_8_code 11 = .ok (.iload 4, 2) := by decide +kernel
theorem d_In_isAmong_13 : decode prog_4_method_8_code 13 = .ok (.imul, 1) := by decide +kernel
theorem d_In_isAmong_14 : decode prog_4_method_8_code 14 = .ok (.iadd, 1) := by decide +kernel
theorem d_In_isAmong_15 : decode prog_4_method_8_code 15 = .ok (.istore 5, 2) := by decide +kernel
theorem d_In_isAmong_17 : decode prog_4_method_8_code 17 = .ok (.aload_n 0, 1) := by decide +kernel
theorem d_In_isAmong_18 : decode prog_4_method_8_code 18 = .ok (.getfield 18, 3) := by decide +kernel
theorem d_In_isAmong_21 : decode prog_4_method_8_code 21 = .ok (.iload_n 1, 1) := by decide +kernel
theorem d_In_isAmong_22 : decode prog_4_method_8_code 22 = .ok (.invokevirtual 91, 3) := by decide +kernel
theorem d_In_isAmong_25 : decode prog_4_method_8_code 25 = .ok (.aload_n 0, 1) := by decide +kernel
theorem d_In_isAmong_26 : decode prog_4_method_8_code 26 = .ok (.getfield 18, 3) := by decide +kernel
theorem d_In_isAmong_29 : decode prog_4_method_8_code 29 = .ok (.iload 5, 2) := by decide +kernel
theorem d_In_isAmong_31 : decode prog_4_method_8_code 31 = .ok (.invokevirtual 91, 3) := by decide +kernel
theorem d_In_isAmong_34 : decode prog_4_method_8_code 34 = .ok (.if_icmp .ne 29, 3) := by decide +kernel
theorem d_In_isAmong_37 : decode prog_4_method_8_code 37 = .ok (.aload_n 0, 1) := by decide +kernel
theorem d_In_isAmong_38 : decode prog_4_method_8_code 38 = .ok (.getfield 18, 3) := by decide +kernel
theorem d_In_isAmong_41 : decode prog_4_method_8_code 41 = .ok (.iload_n 1, 1) := by decide +kernel
theorem d_In_isAmong_42 : decode prog_4_method_8_code 42 = .ok (.iconst 2, 1) := by decide +kernel
theorem d_In_isAmong_43 : decode prog_4_method_8_code 43 = .ok (.iadd, 1) := by decide +kernel
theorem d_In_isAmong_44 : decode prog_4_method_8_code 44 = .ok (.invokevirtual 91, 3) := by decide +kernel
theorem d_In_isAmong_47 : decode prog_4_method_8_code 47 = .ok (.aload_n 0, 1) := by decide +kernel
theorem d_In_isAmong_48 : decode prog_4_method_8_code 48 = .ok (.getfield 18, 3) := by decide +kernel
theorem d_In_isAmong_51 : decode prog_4_method_8_code 51 = .ok (.iload 5, 2) := by decide +kernel
theorem d_In_isAmong_53 : decode prog_4_method_8_code 53 = .ok (.iconst 2, 1) := by decide +kernel
theorem d_In_isAmong_54 : decode prog_4_method_8_code 54 = .ok (.iadd, 1) := by decide +kernel
theorem d_In_isAmong_55 : decode prog_4_method_8_code 55 = .ok (.invokevirtual 91, 3) := by decide +kernel
theorem d_In_isAmong_58 : decode prog_4_method_8_code 58 = .ok (.if_icmp .ne 5, 3) := by decide +kernel
theorem d_In_isAmong_61 : decode prog_4_method_8_code 61 = .ok (.iconst 1, 1) := by decide +kernel
theorem d_In_isAmong_62 : decode prog_4_method_8_code 62 = .ok (.ireturn, 1) := by decide +kernel
theorem d_In_isAmong_63 : decode prog_4_method_8_code 63 = .ok (.iinc 4 1, 3) := by decide +kernel
theorem d_In_isAmong_66 : decode prog_4_method_8_code 66 = .ok (.goto (-63), 3) := by decide +kernel
theorem d_In_isAmong_69 : decode prog_4_method_8_code 69 = .ok (.iconst 0, 1) := by decide +kernel
theorem d_In_isAmong_70 : decode prog_4_method_8_code 70 = .ok (.ireturn, 1) := by decide +kernel
def y_In_changeNamed : MethodName := ⟨"PatchStore$Intake", "changeNamed", "(II)I"⟩
abbrev c_In_changeNamed : Cond := (Jvm.Cond.code ({ cls := "PatchStore$Intake", name := "changeNamed", desc := "(II)I" } : Jvm.MethodName) prog_4_method_11_code (7 : Nat) (Option.some Jvm.ClassFile.FieldType.int))
abbrev ws_In_changeNamed : List Cond := c_In_changeNamed :: xg_1
theorem d_In_changeNamed_0 : decode prog_4_method_11_code 0 = .ok (.aload_n 0, 1) := by decide +kernel
theorem d_In_changeNamed_1 : decode prog_4_method_11_code 1 = .ok (.getfield 18, 3) := by decide +kernel
theorem d_In_changeNamed_4 : decode prog_4_method_11_code 4 = .ok (.iload_n 2, 1) := by decide +kernel
theorem d_In_changeNamed_5 : decode prog_4_method_11_code 5 = .ok (.invokevirtual 91, 3) := by decide +kernel
theorem d_In_changeNamed_8 : decode prog_4_method_11_code 8 = .ok (.istore_n 3, 1) := by decide +kernel
theorem d_In_changeNamed_9 : decode prog_4_method_11_code 9 = .ok (.aload_n 0, 1) := by decide +kernel
theorem d_In_changeNamed_10 : decode prog_4_method_11_code 10 = .ok (.getfield 18, 3) := by decide +kernel
theorem d_In_changeNamed_13 : decode prog_4_method_11_code 13 = .ok (.getfield 95, 3) := by decide +kernel
theorem d_In_changeNamed_16 : decode prog_4_method_11_code 16 = .ok (.aload_n 0, 1) := by decide +kernel
theorem d_In_changeNamed_17 : decode prog_4_method_11_code 17 = .ok (.getfield 18, 3) := by decide +kernel
theorem d_In_changeNamed_20 : decode prog_4_method_11_code 20 = .ok (.getfield 84, 3) := by decide +kernel
theorem d_In_changeNamed_23 : decode prog_4_method_11_code 23 = .ok (.iaload, 1) := by decide +kernel
theorem d_In_changeNamed_24 : decode prog_4_method_11_code 24 = .ok (.istore 4, 2) := by decide +kernel
theorem d_In_changeNamed_26 : decode prog_4_method_11_code 26 = .ok (.iload_n 3, 1) := by decide +kernel
theorem d_In_changeNamed_27 : decode prog_4_method_11_code 27 = .ok (.ldc 204, 2) := by decide +kernel
theorem d_In_changeNamed_29 : decode prog_4_method_11_code 29 = .ok (.if_icmp .ne 44, 3) := by decide +kernel
theorem d_In_changeNamed_32 : decode prog_4_method_11_code 32 = .ok (.aload_n 0, 1) := by decide +kernel
theorem d_In_changeNamed_33 : decode prog_4_method_11_code 33 = .ok (.getfield 18, 3) := by decide +kernel
theorem d_In_changeNamed_36 : decode prog_4_method_11_code 36 = .ok (.getfield 151, 3) := by decide +kernel
theorem d_In_changeNamed_39 : decode prog_4_method_11_code 39 = .ok (.aload_n 0, 1) := by decide +kernel
theorem d_In_changeNamed_40 : decode prog_4_method_11_code 40 = .ok (.getfield 18, 3) := by decide +kernel
theorem d_In_changeNamed_43 : decode prog_4_method_11_code 43 = .ok (.getfield 84, 3) := by decide +kernel
theorem d_In_changeNamed_46 : decode prog_4_method_11_code 46 = .ok (.iaload, 1) := by decide +kernel
theorem d_In_changeNamed_47 : decode prog_4_method_11_code 47 = .ok (.aload_n 0, 1) := by decide +kernel
theorem d_In_changeNamed_48 : decode prog_4_method_11_code 48 = .ok (.getfield 18, 3) := by decide +kernel
theorem d_In_changeNamed_51 : decode prog_4_method_11_code 51 = .ok (.iload_n 2, 1) := by decide +kernel
theorem d_In_changeNamed_52 : decode prog_4_method_11_code 52 = .ok (.iconst 2, 1) := by decide +kernel
theorem d_In_changeNamed_53 : decode prog_4_method_11_code 53 = .ok (.iadd, 1) := by decide +kernel
theorem d_In_changeNamed_54 : decode prog_4_method_11_code 54 = .ok (.invokevirtual 91, 3) := by decide +kernel
theorem d_In_changeNamed_57 : decode prog_4_method_11_code 57 = .ok (.iadd, 1) := by decide +kernel
theorem d_In_changeNamed_58 : decode prog_4_method_11_code 58 = .ok (.istore 5, 2) := by decide +kernel
theorem d_In_changeNamed_60 : decode prog_4_method_11_code 60 = .ok (.iload 5, 2) := by decide +kernel
theorem d_In_changeNamed_62 : decode prog_4_method_11_code 62 = .ok (.iload_n 1, 1) := by decide +kernel
theorem d_In_changeNamed_63 : decode prog_4_method_11_code 63 = .ok (.if_icmp .ge 8, 3) := by decide +kernel
theorem d_In_changeNamed_66 : decode prog_4_method_11_code 66 = .ok (.iload 5, 2) := by decide +kernel
theorem d_In_changeNamed_68 : decode prog_4_method_11_code 68 = .ok (.goto 4, 3) := by decide +kernel
theorem d_In_changeNamed_71 : decode prog_4_method_11_code 71 = .ok (.iconst (-1), 1) := by decide +kernel
theorem d_In_changeNamed_72 : decode prog_4_method_11_code 72 = .ok (.ireturn, 1) := by decide +kernel
theorem d_In_changeNamed_73 : decode prog_4_method_11_code 73 = .ok (.iload_n 3, 1) := by decide +kernel
theorem d_In_changeNamed_74 : decode prog_4_method_11_code 74 = .ok (.aload_n 0, 1) := by decide +kernel
theorem d_In_changeNamed_75 : decode prog_4_method_11_code 75 = .ok (.getfield 18, 3) := by decide +kernel
theorem d_In_changeNamed_78 : decode prog_4_method_11_code 78 = .ok (.getfield 95, 3) := by decide +kernel
theorem d_In_changeNamed_81 : decode prog_4_method_11_code 81 = .ok (.aload_n 0, 1) := by decide +kernel
theorem d_In_changeNamed_82 : decode prog_4_method_11_code 82 = .ok (.getfield 18, 3) := by decide +kernel
theorem d_In_changeNamed_85 : decode prog_4_method_11_code 85 = .ok (.getfield 84, 3) := by decide +kernel
theorem d_In_changeNamed_88 : decode prog_4_method_11_code 88 = .ok (.iconst 1, 1) := by decide +kernel
theorem d_In_changeNamed_89 : decode prog_4_method_11_code 89 = .ok (.iadd, 1) := by decide +kernel
theorem d_In_changeNamed_90 : decode prog_4_method_11_code 90 = .ok (.iaload, 1) := by decide +kernel
theorem d_In_changeNamed_91 : decode prog_4_method_11_code 91 = .ok (.iload 4, 2) := by decide +kernel
theorem d_In_changeNamed_93 : decode prog_4_method_11_code 93 = .ok (.isub, 1) := by decide +kernel
theorem d_In_changeNamed_94 : decode prog_4_method_11_code 94 = .ok (.if_icmp .ge 10, 3) := by decide +kernel
theorem d_In_changeNamed_97 : decode prog_4_method_11_code 97 = .ok (.iload_n 3, 1) := by decide +kernel
theorem d_In_changeNamed_98 : decode prog_4_method_11_code 98 = .ok (.sipush 2048, 3) := by decide +kernel
theorem d_In_changeNamed_101 : decode prog_4_method_11_code 101 = .ok (.if_icmp .lt 5, 3) := by decide +kernel
theorem d_In_changeNamed_104 : decode prog_4_method_11_code 104 = .ok (.iconst (-1), 1) := by decide +kernel
theorem d_In_changeNamed_105 : decode prog_4_method_11_code 105 = .ok (.ireturn, 1) := by decide +kernel
theorem d_In_changeNamed_106 : decode prog_4_method_11_code 106 = .ok (.aload_n 0, 1) := by decide +kernel
theorem d_In_changeNamed_107 : decode prog_4_method_11_code 107 = .ok (.getfield 9, 3) := by decide +kernel
theorem d_In_changeNamed_110 : decode prog_4_method_11_code 110 = .ok (.iload_n 3, 1) := by decide +kernel
theorem d_In_changeNamed_111 : decode prog_4_method_11_code 111 = .ok (.iconst 1, 1) := by decide +kernel
theorem d_In_changeNamed_112 : decode prog_4_method_11_code 112 = .ok (.iastore, 1) := by decide +kernel
theorem d_In_changeNamed_113 : decode prog_4_method_11_code 113 = .ok (.aload_n 0, 1) := by decide +kernel
theorem d_In_changeNamed_114 : decode prog_4_method_11_code 114 = .ok (.getfield 18, 3) := by decide +kernel
theorem d_In_changeNamed_117 : decode prog_4_method_11_code 117 = .ok (.getfield 110, 3) := by decide +kernel
theorem d_In_changeNamed_120 : decode prog_4_method_11_code 120 = .ok (.iload 4, 2) := by decide +kernel
theorem d_In_changeNamed_122 : decode prog_4_method_11_code 122 = .ok (.iload_n 3, 1) := by decide +kernel
theorem d_In_changeNamed_123 : decode prog_4_method_11_code 123 = .ok (.iadd, 1) := by decide +kernel
theorem d_In_changeNamed_124 : decode prog_4_method_11_code 124 = .ok (.iaload, 1) := by decide +kernel
theorem d_In_changeNamed_125 : decode prog_4_method_11_code 125 = .ok (.istore 5, 2) := by decide +kernel
theorem d_In_changeNamed_127 : decode prog_4_method_11_code 127 = .ok (.aload_n 0, 1) := by decide +kernel
theorem d_In_changeNamed_128 : decode prog_4_method_11_code 128 = .ok (.getfield 18, 3) := by decide +kernel
theorem d_In_changeNamed_131 : decode prog_4_method_11_code 131 = .ok (.getfield 151, 3) := by decide +kernel
theorem d_In_changeNamed_134 : decode prog_4_method_11_code 134 = .ok (.iload 5, 2) := by decide +kernel
theorem d_In_changeNamed_136 : decode prog_4_method_11_code 136 = .ok (.iaload, 1) := by decide +kernel
theorem d_In_changeNamed_137 : decode prog_4_method_11_code 137 = .ok (.aload_n 0, 1) := by decide +kernel
theorem d_In_changeNamed_138 : decode prog_4_method_11_code 138 = .ok (.getfield 18, 3) := by decide +kernel
theorem d_In_changeNamed_141 : decode prog_4_method_11_code 141 = .ok (.iload_n 2, 1) := by decide +kernel
theorem d_In_changeNamed_142 : decode prog_4_method_11_code 142 = .ok (.iconst 2, 1) := by decide +kernel
theorem d_In_changeNamed_143 : decode prog_4_method_11_code 143 = .ok (.iadd, 1) := by decide +kernel
theorem d_In_changeNamed_144 : decode prog_4_method_11_code 144 = .ok (.invokevirtual 91, 3) := by decide +kernel
theorem d_In_changeNamed_147 : decode prog_4_method_11_code 147 = .ok (.iadd, 1) := by decide +kernel
theorem d_In_changeNamed_148 : decode prog_4_method_11_code 148 = .ok (.istore 6, 2) := by decide +kernel
theorem d_In_changeNamed_150 : decode prog_4_method_11_code 150 = .ok (.iload 6, 2) := by decide +kernel
theorem d_In_changeNamed_152 : decode prog_4_method_11_code 152 = .ok (.aload_n 0, 1) := by decide +kernel
theorem d_In_changeNamed_153 : decode prog_4_method_11_code 153 = .ok (.getfield 18, 3) := by decide +kernel
theorem d_In_changeNamed_156 : decode prog_4_method_11_code 156 = .ok (.getfield 151, 3) := by decide +kernel
theorem d_In_changeNamed_159 : decode prog_4_method_11_code 159 = .ok (.iload 5, 2) := by decide +kernel
theorem d_In_changeNamed_161 : decode prog_4_method_11_code 161 = .ok (.iconst 1, 1) := by decide +kernel
theorem d_In_changeNamed_162 : decode prog_4_method_11_code 162 = .ok (.iadd, 1) := by decide +kernel
theorem d_In_changeNamed_163 : decode prog_4_method_11_code 163 = .ok (.iaload, 1) := by decide +kernel
theorem d_In_changeNamed_164 : decode prog_4_method_11_code 164 = .ok (.if_icmp .ge 8, 3) := by decide +kernel
theorem d_In_changeNamed_167 : decode prog_4_method_11_code 167 = .ok (.iload 6, 2) := by decide +kernel
theorem d_In_changeNamed_169 : decode prog_4_method_11_code 169 = .ok (.goto 4, 3) := by decide +kernel
theorem d_In_changeNamed_172 : decode prog_4_method_11_code 172 = .ok (.iconst (-1), 1) := by decide +kernel
theorem d_In_changeNamed_173 : decode prog_4_method_11_code 173 = .ok (.ireturn, 1) := by decide +kernel
def y_In_fileNamed : MethodName := ⟨"PatchStore$Intake", "fileNamed", "(II)I"⟩
abbrev c_In_fileNamed : Cond := (Jvm.Cond.code ({ cls := "PatchStore$Intake", name := "fileNamed", desc := "(II)I" } : Jvm.MethodName) prog_4_method_12_code (4 : Nat) (Option.some Jvm.ClassFile.FieldType.int))
abbrev ws_In_fileNamed : List Cond := c_In_fileNamed :: xg_1
theorem d_In_fileNamed_0 : decode prog_4_method_12_code 0 = .ok (.aload_n 0, 1) := by decide +kernel
theorem d_In_fileNamed_1 : decode prog_4_method_12_code 1 = .ok (.iload_n 1, 1) := by decide +kernel
theorem d_In_fileNamed_2 : decode prog_4_method_12_code 2 = .ok (.iload_n 2, 1) := by decide +kernel
theorem d_In_fileNamed_3 : decode prog_4_method_12_code 3 = .ok (.invokevirtual 182, 3) := by decide +kernel
theorem d_In_fileNamed_6 : decode prog_4_method_12_code 6 = .ok (.istore_n 3, 1) := by decide +kernel
theorem d_In_fileNamed_7 : decode prog_4_method_12_code 7 = .ok (.iload_n 3, 1) := by decide +kernel
theorem d_In_fileNamed_8 : decode prog_4_method_12_code 8 = .ok (.iconst (-1), 1) := by decide +kernel
theorem d_In_fileNamed_9 : decode prog_4_method_12_code 9 = .ok (.if_icmp .eq 26, 3) := by decide +kernel
theorem d_In_fileNamed_12 : decode prog_4_method_12_code 12 = .ok (.aload_n 0, 1) := by decide +kernel
theorem d_In_fileNamed_13 : decode prog_4_method_12_code 13 = .ok (.getfield 18, 3) := by decide +kernel
theorem d_In_fileNamed_16 : decode prog_4_method_12_code 16 = .ok (.iload_n 3, 1) := by decide +kernel
theorem d_In_fileNamed_17 : decode prog_4_method_12_code 17 = .ok (.invokevirtual 205, 3) := by decide +kernel
theorem d_In_fileNamed_20 : decode prog_4_method_12_code 20 = .ok (.ifCond .ne 15, 3) := by decide +kernel
theorem d_In_fileNamed_23 : decode prog_4_method_12_code 23 = .ok (.aload_n 0, 1) := by decide +kernel
theorem d_In_fileNamed_24 : decode prog_4_method_12_code 24 = .ok (.getfield 28, 3) := by decide +kernel
theorem d_In_fileNamed_27 : decode prog_4_method_12_code 27 = .ok (.getfield 157, 3) := by decide +kernel
theorem d_In_fileNamed_30 : decode prog_4_method_12_code 30 = .ok (.iload_n 3, 1) := by decide +kernel
theorem d_In_fileNamed_31 : decode prog_4_method_12_code 31 = .ok (.iaload, 1) := by decide +kernel
theorem d_In_fileNamed_32 : decode prog_4_method_12_code 32 = .ok (.goto 4, 3) := by decide +kernel
theorem d_In_fileNamed_35 : decode prog_4_method_12_code 35 = .ok (.iconst (-1), 1) := by decide +kernel
theorem d_In_fileNamed_36 : decode prog_4_method_12_code 36 = .ok (.ireturn, 1) := by decide +kernel
def y_In_fileOfLine : MethodName := ⟨"PatchStore$Intake", "fileOfLine", "(II)I"⟩
abbrev c_In_fileOfLine : Cond := (Jvm.Cond.code ({ cls := "PatchStore$Intake", name := "fileOfLine", desc := "(II)I" } : Jvm.MethodName) prog_4_method_13_code (4 : Nat) (Option.some Jvm.ClassFile.FieldType.int))
abbrev ws_In_fileOfLine : List Cond := c_In_fileOfLine :: xg_1
theorem d_In_fileOfLine_0 : decode prog_4_method_13_code 0 = .ok (.aload_n 0, 1) := by decide +kernel
theorem d_In_fileOfLine_1 : decode prog_4_method_13_code 1 = .ok (.iload_n 1, 1) := by decide +kernel
theorem d_In_fileOfLine_2 : decode prog_4_method_13_code 2 = .ok (.iload_n 2, 1) := by decide +kernel
theorem d_In_fileOfLine_3 : decode prog_4_method_13_code 3 = .ok (.invokevirtual 182, 3) := by decide +kernel
theorem d_In_fileOfLine_6 : decode prog_4_method_13_code 6 = .ok (.istore_n 3, 1) := by decide +kernel
theorem d_In_fileOfLine_7 : decode prog_4_method_13_code 7 = .ok (.iload_n 3, 1) := by decide +kernel
theorem d_In_fileOfLine_8 : decode prog_4_method_13_code 8 = .ok (.iconst (-1), 1) := by decide +kernel
theorem d_In_fileOfLine_9 : decode prog_4_method_13_code 9 = .ok (.if_icmp .eq 15, 3) := by decide +kernel
theorem d_In_fileOfLine_12 : decode prog_4_method_13_code 12 = .ok (.aload_n 0, 1) := by decide +kernel
theorem d_In_fileOfLine_13 : decode prog_4_method_13_code 13 = .ok (.getfield 18, 3) := by decide +kernel
theorem d_In_fileOfLine_16 : decode prog_4_method_13_code 16 = .ok (.iload_n 3, 1) := by decide +kernel
theorem d_In_fileOfLine_17 : decode prog_4_method_13_code 17 = .ok (.invokevirtual 205, 3) := by decide +kernel
theorem d_In_fileOfLine_20 : decode prog_4_method_13_code 20 = .ok (.iconst 2, 1) := by decide +kernel
theorem d_In_fileOfLine_21 : decode prog_4_method_13_code 21 = .ok (.if_icmp .eq 5, 3) := by decide +kernel
theorem d_In_fileOfLine_24 : decode prog_4_method_13_code 24 = .ok (.iconst (-1), 1) := by decide +kernel
theorem d_In_fileOfLine_25 : decode prog_4_method_13_code 25 = .ok (.ireturn, 1) := by decide +kernel
theorem d_In_fileOfLine_26 : decode prog_4_method_13_code 26 = .ok (.aload_n 0, 1) := by decide +kernel
theorem d_In_fileOfLine_27 : decode prog_4_method_13_code 27 = .ok (.getfield 18, 3) := by decide +kernel
theorem d_In_fileOfLine_30 : decode prog_4_method_13_code 30 = .ok (.iload_n 2, 1) := by decide +kernel
theorem d_In_fileOfLine_31 : decode prog_4_method_13_code 31 = .ok (.iconst 4, 1) := by decide +kernel
theorem d_In_fileOfLine_32 : decode prog_4_method_13_code 32 = .ok (.iadd, 1) := by decide +kernel
theorem d_In_fileOfLine_33 : decode prog_4_method_13_code 33 = .ok (.invokevirtual 91, 3) := by decide +kernel
theorem d_In_fileOfLine_36 : decode prog_4_method_13_code 36 = .ok (.aload_n 0, 1) := by decide +kernel
theorem d_In_fileOfLine_37 : decode prog_4_method_13_code 37 = .ok (.getfield 18, 3) := by decide +kernel
theorem d_In_fileOfLine_40 : decode prog_4_method_13_code 40 = .ok (.aload_n 0, 1) := by decide +kernel
theorem d_In_fileOfLine_41 : decode prog_4_method_13_code 41 = .ok (.getfield 18, 3) := by decide +kernel
theorem d_In_fileOfLine_44 : decode prog_4_method_13_code 44 = .ok (.iload_n 3, 1) := by decide +kernel
theorem d_In_fileOfLine_45 : decode prog_4_method_13_code 45 = .ok (.invokevirtual 198, 3) := by decide +kernel
theorem d_In_fileOfLine_48 : decode prog_4_method_13_code 48 = .ok (.invokevirtual 91, 3) := by decide +kernel
theorem d_In_fileOfLine_51 : decode prog_4_method_13_code 51 = .ok (.if_icmp .ge 15, 3) := by decide +kernel
theorem d_In_fileOfLine_54 : decode prog_4_method_13_code 54 = .ok (.aload_n 0, 1) := by decide +kernel
theorem d_In_fileOfLine_55 : decode prog_4_method_13_code 55 = .ok (.getfield 28, 3) := by decide +kernel
theorem d_In_fileOfLine_58 : decode prog_4_method_13_code 58 = .ok (.getfield 157, 3) := by decide +kernel
theorem d_In_fileOfLine_61 : decode prog_4_method_13_code 61 = .ok (.iload_n 3, 1) := by decide +kernel
theorem d_In_fileOfLine_62 : decode prog_4_method_13_code 62 = .ok (.iaload, 1) := by decide +kernel
theorem d_In_fileOfLine_63 : decode prog_4_method_13_code 63 = .ok (.goto 4, 3) := by decide +kernel
theorem d_In_fileOfLine_66 : decode prog_4_method_13_code 66 = .ok (.iconst (-1), 1) := by decide +kernel
theorem d_In_fileOfLine_67 : decode prog_4_method_13_code 67 = .ok (.ireturn, 1) := by decide +kernel
/-- the change that the ref at k names, in change cc of the candidate -/
def cnR (f : Nat → Int32) (DP FC : Nat → Nat) (P nd cc k x : Nat) : Prop := (tw f k = 65535 ∧ x = FC P + tw f (k + 2) ∧ x < cc) ∨ (tw f k < nd ∧ x = FC (DP (tw f k)) + tw f (k + 2) ∧ x < FC (DP (tw f k) + 1))
theorem cnR.uniq {f : Nat → Int32} {DP FC : Nat → Nat} {P nd cc k x y : Nat} (hnd : nd ≤ 2048) (h1 : cnR f DP FC P nd cc k x) (h2 : cnR f DP FC P nd cc k y) : x = y := by
  rcases h1 with ⟨a1, a2, a3⟩ | ⟨a1, a2, a3⟩ <;> rcases h2 with ⟨b1, b2, b3⟩ | ⟨b1, b2, b3⟩ <;> omega
theorem cnR.lt {f : Nat → Int32} {DP FC : Nat → Nat} {P nd cc k x : Nat} (hD : ∀ i, i < nd → DP i < P) (hL : ∀ i, i < P → FC (i + 1) ≤ cc) (h : cnR f DP FC P nd cc k x) : x < cc := by
  rcases h with ⟨a1, a2, a3⟩ | ⟨a1, a2, a3⟩
  · exact a3
  · exact Nat.lt_of_lt_of_le a3 (hL _ (hD _ a1))
/-- which dependencies are named then -/
def nmU (f : Nat → Int32) (nd k : Nat) (nf : Nat → Int32) : Nat → Int32 := if tw f k < nd then upd nf (tw f k) 1 else nf
/-- the file that the ref at k names -/
def fnR (f : Nat → Int32) (DP FC CA CF : Nat → Nat) (P nd cc k y : Nat) : Prop := ∃ x, cnR f DP FC P nd cc k x ∧ f (CA x) = 0 ∧ y = CF x
/-- where the number of lines of the insert at a stands -/
def lnAt (f : Nat → Int32) (a : Nat) : Nat := plEnd f (plEnd f (a + 5))
/-- the file of the line that the ref at k names -/
def flR (f : Nat → Int32) (DP FC CA CF : Nat → Nat) (P nd cc k y : Nat) : Prop := ∃ x, cnR f DP FC P nd cc k x ∧ f (CA x) = 2 ∧ tw f (k + 4) < tw f (lnAt f (CA x)) ∧ y = CF x
/-- the ref is one of those in front of it -/
def amR (f : Nat → Int32) (rf fi n : Nat) : Prop := ∃ i, i < n ∧ tw f rf = tw f (fi + 4 * i) ∧ tw f (rf + 2) = tw f (fi + 4 * i + 2)
set_option maxHeartbeats 4000000 in
set_option maxRecDepth 100000 in
/-- whether a ref is one of those in front of it -/
theorem m_In_isAmong (l : Launch) (dC : Nat → ClassId) (dI : Nat → Nat → Nat) (cI cB cL cZ cR : ClassId) (h sk b_y : Nat) (it_changes it_lines it_sha it_form it_named it_linesOfFile it_nextFile it_nextLine sk_from sk_firstDependency sk_firstChange sk_dependencies sk_hashes sk_byHash sk_leansOn sk_leantBy sk_changes sk_lines sk_patches : Value) (f : Nat → Int32) (rf fi n : Nat) (sz : Nat) (h1 : rf + 3 < 290000) (h2 : fi + 4 * n + 3 < 290000) : Met l y_In_isAmong ws_In_isAmong ({ frames := 1, cells := 0, slots := 0, locals := 60 }) (xw_Pc dC dI [(cI, .int), (cB, .byte), (cL, .long), (cZ, .boolean), (cR, .object "PatchStore$Repository")] [.ref h, .int (nI rf), .int (nI fi), .int (nI n)] [(h, .inr (3, [.ref sk, it_changes, it_lines, it_sha, it_form, it_named, it_linesOfFile, it_nextFile, it_nextLine])), (sk, .inr (9, [.ref b_y, sk_from, sk_firstDependency, sk_firstChange, sk_dependencies, sk_hashes, sk_byHash, sk_leansOn, sk_leantBy, sk_changes, sk_lines, sk_patches])), (b_y, .inl (cB, 290000, .inl f))] sz) (va_Qi (fun (r : Int32) (_ : Unit) => (r = 1 ∧ amR f rf fi n) ∨ (r = 0 ∧ ¬ amR f rf fi n)) (fun _ t => xw_B dC dI [(cI, .int), (cB, .byte), (cL, .long), (cZ, .boolean), (cR, .object "PatchStore$Repository")] (va_A [(h, .inr (3, [.ref sk, it_changes, it_lines, it_sha, it_form, it_named, it_linesOfFile, it_nextFile, it_nextLine])), (sk, .inr (9, [.ref b_y, sk_from, sk_firstDependency, sk_firstChange, sk_dependencies, sk_hashes, sk_byHash, sk_leansOn, sk_leantBy, sk_changes, sk_lines, sk_patches])), (b_y, .inl (cB, 290000, .inl f))] sz) [(h, .inr (3, [.ref sk, it_changes, it_lines, it_sha, it_form, it_named, it_linesOfFile, it_nextFile, it_nextLine])), (sk, .inr (9, [.ref b_y, sk_from, sk_firstDependency, sk_firstChange, sk_dependencies, sk_hashes, sk_byHash, sk_leansOn, sk_leantBy, sk_changes, sk_lines, sk_patches])), (b_y, .inl (cB, 290000, .inl f))] t) (va_A [(h, .inr (3, [.ref sk, it_changes, it_lines, it_sha, it_form, it_named, it_linesOfFile, it_nextFile, it_nextLine])), (sk, .inr (9, [.ref b_y, sk_from, sk_firstDependency, sk_firstChange, sk_dependencies, sk_hashes, sk_byHash, sk_leansOn, sk_leantBy, sk_changes, sk_lines, sk_patches])), (b_y, .inl (cB, 290000, .inl f))] sz)) 0 0 (va_A [(h, .inr (3, [.ref sk, it_changes, it_lines, it_sha, it_form, it_named, it_linesOfFile, it_nextFile, it_nextLine])), (sk, .inr (9, [.ref b_y, sk_from, sk_firstDependency, sk_firstChange, sk_dependencies, sk_hashes, sk_byHash, sk_leansOn, sk_leantBy, sk_changes, sk_lines, sk_patches])), (b_y, .inl (cB, 290000, .inl f))] sz) := by
  refine Met.ofW (cc := prog_4_method_8_code) (maxL := 6) (ret := (Option.some Jvm.ClassFile.FieldType.boolean)) (by decide) rfl ?_
  intro p e s m args below meth c s₁ B hml hv
  obtain ⟨rfl, hsz, hP, hK, hD0⟩ := hv
  have hx := B.exec
  have hb := B.bytes
  have hr := B.returns
  have hts0 := atoms_spec (ws := ws_In_isAmong) B.pre
  have hts : ∀ w ∈ xg_1, w.before _ s = true := fun w h => hts0 w (List.mem_cons_of_mem _ h)
  have hown : s.vm.findClass "PatchStore$Intake" = some m.cls := findClass_of_methodNamed B.named
  have hlocks := B.notSynchronized
  subst hsz
  have hD := hD0.self (sz := s.heap.size)
  generalize hAe : va_A [(h, .inr (3, [.ref sk, it_changes, it_lines, it_sha, it_form, it_named, it_linesOfFile, it_nextFile, it_nextLine])), (sk, .inr (9, [.ref b_y, sk_from, sk_firstDependency, sk_firstChange, sk_dependencies, sk_hashes, sk_byHash, sk_leansOn, sk_leantBy, sk_changes, sk_lines, sk_patches])), (b_y, .inl (cB, 290000, .inl f))] s.heap.size = A at hD ⊢
  have hA : ∀ q : Nat, s.heap.size ≤ q → A q := fun q h => by rw [← hAe]; exact Or.inr h
  have hS : va_S A s.heap s.heap [] := va_S.rf
  have hl := lv_entry ([.ref h, .int (nI rf), .int (nI fi), .int (nI n)]) (n := 6) (Nat.le_of_ble_eq_true rfl)
  rw [lg_entry_eq]
  generalize (lg_sl ([.ref h, .int (nI rf), .int (nI fi), .int (nI n)]) ++ List.replicate (6 - (lg_sl ([.ref h, .int (nI rf), .int (nI fi), .int (nI n)])).length) Slot.unset).toArray = ls at hl ⊢
  have hl : lv_has ls 6 [(0, .ref h), (1, .int (nI rf)), (2, .int (nI fi)), (3, .int (nI n))] := hl
  generalize hQe : MQ _ _ _ _ _ _ _ = Q
  refine lv_iconst (v := 0) hx hb d_In_isAmong_0 (by decide) ?_
  refine lv_istore (lv' := [(4, .int 0), (0, .ref h), (1, .int (nI rf)), (2, .int (nI fi)), (3, .int (nI n))]) hx hb d_In_isAmong_1 hl (by decide) rfl (fun ls hl => ?_)
  have loop_3 : ∀ (n9 : Nat) (i : Nat) (H : Heap) (locs : List Loc) (ls : Array Slot), n - i < n9 → (i ≤ n) → (∀ j, j < i → ¬ (tw f rf = tw f (fi + 4 * j) ∧ tw f (rf + 2) = tw f (fi + 4 * j + 2))) → va_P (dC, dI) classes [(h, .inr (3, [.ref sk, it_changes, it_lines, it_sha, it_form, it_named, it_linesOfFile, it_nextFile, it_nextLine])), (sk, .inr (9, [.ref b_y, sk_from, sk_firstDependency, sk_firstChange, sk_dependencies, sk_hashes, sk_byHash, sk_leansOn, sk_leantBy, sk_changes, sk_lines, sk_patches])), (b_y, .inl (cB, 290000, .inl f))] H → va_D A [(h, .inr (3, [.ref sk, it_changes, it_lines, it_sha, it_form, it_named, it_linesOfFile, it_nextFile, it_nextLine])), (sk, .inr (9, [.ref b_y, sk_from, sk_firstDependency, sk_firstChange, sk_dependencies, sk_hashes, sk_byHash, sk_leansOn, sk_leantBy, sk_changes, sk_lines, sk_patches])), (b_y, .inl (cB, 290000, .inl f))] → va_S A s.heap H locs → lv_has ls 6 [(0, .ref h), (1, .int (nI rf)), (2, .int (nI fi)), (3, .int (nI n)), (4, .int (nI i))] → W p l e (headSpec ws_In_isAmong ({ frames := 1, cells := 0, slots := 0, locals := 60 })).room s m ([.ref h, .int (nI rf), .int (nI fi), .int (nI n)] : List Value).toArray below meth c H locs 0 0 Q (F0 m 3 ls []) := by
    intro n9
    induction n9 with
    | zero => intro i H locs ls hm; exact absurd hm (Nat.not_lt_zero _)
    | succ n9 ih_3 =>
      intro i H locs ls hm hi hq hP hD hS hl
      refine lv_iload hx hb d_In_isAmong_3 (lv_at hl 4 rfl) ?_
      refine lv_iload_n hx hb d_In_isAmong_5 rfl (lv_at hl 3 rfl) ?_
      refine lv_icmp_ge (tgt := 69) hx hb d_In_isAmong_6 (by decide) (fun c_6 => ?_) (fun c_6 => ?_)
      · have n_6 : n ≤ i := (nI_leI (a := n) (b := i) (by omega) (by omega)).mp c_6
        refine lv_iconst (v := 0) hx hb d_In_isAmong_69 (by decide) ?_
        rw [← hQe]
        exact W.zret (v := 0) hx hb hr nz_b0 (fun t ht hW => ⟨⟨_, (), rfl, Or.inr ⟨rfl, fun ⟨j, z1, z2⟩ => hq j (by omega) z2⟩, by rw [ht]; exact hP, va_K.moved hW.alike hK, hD⟩, hS.F ht⟩) hS.2.2 d_In_isAmong_70
      · have n_6 : i < n := Nat.lt_of_not_le (fun z => c_6 ((nI_leI (a := n) (b := i) (by omega) (by omega)).mpr z))
        refine lv_iload_n hx hb d_In_isAmong_9 rfl (lv_at hl 2 rfl) ?_
        refine lv_iconst (v := 4) hx hb d_In_isAmong_10 (by decide) ?_
        refine lv_iload hx hb d_In_isAmong_11 (lv_at hl 4 rfl) ?_
        refine lv_imul hx hb d_In_isAmong_13 ?_
        refine lv_topi (fun x_1 ex_1 => ?_)
        obtain rfl : x_1 = nI (4 * i) := by rw [ex_1]; first | done | (exact nI_mul _ _)
        refine lv_iadd hx hb d_In_isAmong_14 ?_
        refine lv_topi (fun x_2 ex_2 => ?_)
        obtain rfl : x_2 = nI (fi + (4 * i)) := by rw [ex_2]; first | done | (exact nI_add _ _)
        refine lv_istore (lv' := [(5, .int (nI (fi + (4 * i)))), (0, .ref h), (1, .int (nI rf)), (2, .int (nI fi)), (3, .int (nI n)), (4, .int (nI i))]) hx hb d_In_isAmong_15 hl (by decide) rfl (fun ls hl => ?_)
        refine lv_aload_n hx hb d_In_isAmong_17 rfl (lv_at hl 1 rfl) ?_
        refine va_get (D := (dC, dI)) (ci := 3) (v := .ref sk) (C := R_In) (T := F_In) (N := 9) hx hb hts i_In hown hK hP 0 rfl rfl 0 (by decide) (hts _ gw_284) (fun _ h9 => h9) rfl d_In_isAmong_18 ?_
        refine lv_iload_n hx hb d_In_isAmong_21 rfl (lv_at hl 2 rfl) ?_
        have hPc := hP.sub (ws' := [(sk, .inr (9, [.ref b_y, sk_from, sk_firstDependency, sk_firstChange, sk_dependencies, sk_hashes, sk_byHash, sk_leansOn, sk_leantBy, sk_changes, sk_lines, sk_patches])), (b_y, .inl (cB, 290000, .inl f))]) [1, 2] rfl
        have hDc := hD.sub (ws' := [(sk, .inr (9, [.ref b_y, sk_from, sk_firstDependency, sk_firstChange, sk_dependencies, sk_hashes, sk_byHash, sk_leansOn, sk_leantBy, sk_changes, sk_lines, sk_patches])), (b_y, .inl (cB, 290000, .inl f))]) [1, 2] (by decide) rfl
        have hFc := va_free (wc := [(sk, .inr (9, [.ref b_y, sk_from, sk_firstDependency, sk_firstChange, sk_dependencies, sk_hashes, sk_byHash, sk_leansOn, sk_leantBy, sk_changes, sk_lines, sk_patches])), (b_y, .inl (cB, 290000, .inl f))]) hD hS hA [1, 2] rfl
        refine va_calli (va_runV (As := [.int (nI rf)]) (rest := []) ⟨hx, hb, hml, hown, hts⟩ (m_St_two l dC dI cI cB cL cZ cR sk b_y (sk_from) (sk_firstDependency) (sk_firstChange) (sk_dependencies) (sk_hashes) (sk_byHash) (sk_leansOn) (sk_leantBy) (sk_changes) (sk_lines) (sk_patches) f rf H.size (by omega)) (cwV 1 hts (xg_V gw_815 gw_771 gw_772 gw_3 gw_773) rfl rfl rfl (by decide +kernel) ⟨Nat.le_of_ble_eq_true rfl, Nat.le_of_ble_eq_true rfl⟩) ⟨xw_blind, va_recv hK hPc (ci := 9) (q0 := 0) rfl rfl, fun U hU hW => ⟨rfl, by rw [hU], by rw [hU]; exact hPc, va_K.moved hW.alike hK, hDc.weaken (fun _ _ _ _ => trivial)⟩⟩ rfl rfl hl.1 rfl (lv_room (Nat.le_of_ble_eq_true rfl)) d_In_isAmong_22 ⟨Nat.le_of_ble_eq_true rfl, Nat.le_of_ble_eq_true rfl⟩) hS (fun q _ h => hFc q h) hFc (fun r9 u t H1 locs ht hvm hw hB hz1 hk1 hS => ?_)
        obtain ⟨hP1, hK1, hD1⟩ := hB
        rw [ht] at hP1
        obtain ⟨hP, hD⟩ := va_join (wr := [(h, .inr (3, [.ref sk, it_changes, it_lines, it_sha, it_form, it_named, it_linesOfFile, it_nextFile, it_nextLine]))]) (w1 := [(sk, .inr (9, [.ref b_y, sk_from, sk_firstDependency, sk_firstChange, sk_dependencies, sk_hashes, sk_byHash, sk_leansOn, sk_leantBy, sk_changes, sk_lines, sk_patches])), (b_y, .inl (cB, 290000, .inl f))]) hP hD [1, 2] [0] rfl rfl (by decide) (by decide) hk1 hFc hP1 hD1
        generalize H1 = H at hP hS ⊢
        have hP : va_P (dC, dI) classes [(h, .inr (3, [.ref sk, it_changes, it_lines, it_sha, it_form, it_named, it_linesOfFile, it_nextFile, it_nextLine])), (sk, .inr (9, [.ref b_y, sk_from, sk_firstDependency, sk_firstChange, sk_dependencies, sk_hashes, sk_byHash, sk_leansOn, sk_leantBy, sk_changes, sk_lines, sk_patches])), (b_y, .inl (cB, 290000, .inl f))] H := hP
        have hD : va_D A [(h, .inr (3, [.ref sk, it_changes, it_lines, it_sha, it_form, it_named, it_linesOfFile, it_nextFile, it_nextLine])), (sk, .inr (9, [.ref b_y, sk_from, sk_firstDependency, sk_firstChange, sk_dependencies, sk_hashes, sk_byHash, sk_leansOn, sk_leantBy, sk_changes, sk_lines, sk_patches])), (b_y, .inl (cB, 290000, .inl f))] := hD
        subst hw
        have htw9 := tw_lt f rf
        refine lv_aload_n hx hb d_In_isAmong_25 rfl (lv_at hl 1 rfl) ?_
        refine va_get (D := (dC, dI)) (ci := 3) (v := .ref sk) (C := R_In) (T := F_In) (N := 9) hx hb hts i_In hown hK hP 0 rfl rfl 0 (by decide) (hts _ gw_284) (fun _ h9 => h9) rfl d_In_isAmong_26 ?_
        refine lv_iload hx hb d_In_isAmong_29 (lv_at hl 0 rfl) ?_
        have hPc := hP.sub (ws' := [(sk, .inr (9, [.ref b_y, sk_from, sk_firstDependency, sk_firstChange, sk_dependencies, sk_hashes, sk_byHash, sk_leansOn, sk_leantBy, sk_changes, sk_lines, sk_patches])), (b_y, .inl (cB, 290000, .inl f))]) [1, 2] rfl
        have hDc := hD.sub (ws' := [(sk, .inr (9, [.ref b_y, sk_from, sk_firstDependency, sk_firstChange, sk_dependencies, sk_hashes, sk_byHash, sk_leansOn, sk_leantBy, sk_changes, sk_lines, sk_patches])), (b_y, .inl (cB, 290000, .inl f))]) [1, 2] (by decide) rfl
        have hFc := va_free (wc := [(sk, .inr (9, [.ref b_y, sk_from, sk_firstDependency, sk_firstChange, sk_dependencies, sk_hashes, sk_byHash, sk_leansOn, sk_leantBy, sk_changes, sk_lines, sk_patches])), (b_y, .inl (cB, 290000, .inl f))]) hD hS hA [1, 2] rfl
        refine va_calli (va_runV (As := [.int (nI (fi + (4 * i)))]) (rest := [.int (nI (tw f rf))]) ⟨hx, hb, hml, hown, hts⟩ (m_St_two l dC dI cI cB cL cZ cR sk b_y (sk_from) (sk_firstDependency) (sk_firstChange) (sk_dependencies) (sk_hashes) (sk_byHash) (sk_leansOn) (sk_leantBy) (sk_changes) (sk_lines) (sk_patches) f (fi + (4 * i)) H.size (by omega)) (cwV 1 hts (xg_V gw_815 gw_771 gw_772 gw_3 gw_773) rfl rfl rfl (by decide +kernel) ⟨Nat.le_of_ble_eq_true rfl, Nat.le_of_ble_eq_true rfl⟩) ⟨xw_blind, va_recv hK hPc (ci := 9) (q0 := 0) rfl rfl, fun U hU hW => ⟨rfl, by rw [hU], by rw [hU]; exact hPc, va_K.moved hW.alike hK, hDc.weaken (fun _ _ _ _ => trivial)⟩⟩ rfl rfl hl.1 rfl (lv_room (Nat.le_of_ble_eq_true rfl)) d_In_isAmong_31 ⟨Nat.le_of_ble_eq_true rfl, Nat.le_of_ble_eq_true rfl⟩) hS (fun q _ h => hFc q h) hFc (fun r9 u t H1 locs ht hvm hw hB hz1 hk1 hS => ?_)
        obtain ⟨hP1, hK1, hD1⟩ := hB
        rw [ht] at hP1
        obtain ⟨hP, hD⟩ := va_join (wr := [(h, .inr (3, [.ref sk, it_changes, it_lines, it_sha, it_form, it_named, it_linesOfFile, it_nextFile, it_nextLine]))]) (w1 := [(sk, .inr (9, [.ref b_y, sk_from, sk_firstDependency, sk_firstChange, sk_dependencies, sk_hashes, sk_byHash, sk_leansOn, sk_leantBy, sk_changes, sk_lines, sk_patches])), (b_y, .inl (cB, 290000, .inl f))]) hP hD [1, 2] [0] rfl rfl (by decide) (by decide) hk1 hFc hP1 hD1
        generalize H1 = H at hP hS ⊢
        have hP : va_P (dC, dI) classes [(h, .inr (3, [.ref sk, it_changes, it_lines, it_sha, it_form, it_named, it_linesOfFile, it_nextFile, it_nextLine])), (sk, .inr (9, [.ref b_y, sk_from, sk_firstDependency, sk_firstChange, sk_dependencies, sk_hashes, sk_byHash, sk_leansOn, sk_leantBy, sk_changes, sk_lines, sk_patches])), (b_y, .inl (cB, 290000, .inl f))] H := hP
        have hD : va_D A [(h, .inr (3, [.ref sk, it_changes, it_lines, it_sha, it_form, it_named, it_linesOfFile, it_nextFile, it_nextLine])), (sk, .inr (9, [.ref b_y, sk_from, sk_firstDependency, sk_firstChange, sk_dependencies, sk_hashes, sk_byHash, sk_leansOn, sk_leantBy, sk_changes, sk_lines, sk_patches])), (b_y, .inl (cB, 290000, .inl f))] := hD
        subst hw
        have htw9 := tw_lt f (fi + (4 * i))
        refine lv_icmp_ne (tgt := 63) hx hb d_In_isAmong_34 (by decide) (fun c_34 => ?_) (fun c_34 => ?_)
        · have n_34 : ¬ (tw f rf) = (tw f (fi + (4 * i))) := fun z => c_34 ((nI_eq (a := (tw f rf)) (b := (tw f (fi + (4 * i)))) (by omega) (by omega)).mpr z)
          have hne : ¬ (tw f rf = tw f (fi + 4 * i) ∧ tw f (rf + 2) = tw f (fi + 4 * i + 2)) := fun z => n_34 z.1
          refine lv_iinc (v := nI (i + 1)) (lv' := [(4, .int (nI (i + 1))), (5, .int (nI (fi + (4 * i)))), (0, .ref h), (1, .int (nI rf)), (2, .int (nI fi)), (3, .int (nI n))]) hx hb d_In_isAmong_63 hl (k := 5) rfl (by exact nI_add _ _) (by decide) rfl (fun ls hl => ?_)
          refine lv_goto (tgt := 3) hx hb d_In_isAmong_66 (by decide) ?_
          exact ih_3 (i + 1) _ _ _ (by omega) (by omega) (fun j z => if h9 : j = i then h9 ▸ hne else hq j (by omega)) hP hD hS (lv_sub hl [2, 3, 4, 5, 0] rfl)
        · have n_34 : (tw f rf) = (tw f (fi + (4 * i))) := (nI_eq (a := (tw f rf)) (b := (tw f (fi + (4 * i)))) (by omega) (by omega)).mp c_34
          refine lv_aload_n hx hb d_In_isAmong_37 rfl (lv_at hl 1 rfl) ?_
          refine va_get (D := (dC, dI)) (ci := 3) (v := .ref sk) (C := R_In) (T := F_In) (N := 9) hx hb hts i_In hown hK hP 0 rfl rfl 0 (by decide) (hts _ gw_284) (fun _ h9 => h9) rfl d_In_isAmong_38 ?_
          refine lv_iload_n hx hb d_In_isAmong_41 rfl (lv_at hl 2 rfl) ?_
          refine lv_iconst (v := 2) hx hb d_In_isAmong_42 (by decide) ?_
          refine lv_iadd hx hb d_In_isAmong_43 ?_
          refine lv_topi (fun x_3 ex_3 => ?_)
          obtain rfl : x_3 = nI (rf + 2) := by rw [ex_3]; first | done | (exact nI_add _ _)
          have hPc := hP.sub (ws' := [(sk, .inr (9, [.ref b_y, sk_from, sk_firstDependency, sk_firstChange, sk_dependencies, sk_hashes, sk_byHash, sk_leansOn, sk_leantBy, sk_changes, sk_lines, sk_patches])), (b_y, .inl (cB, 290000, .inl f))]) [1, 2] rfl
          have hDc := hD.sub (ws' := [(sk, .inr (9, [.ref b_y, sk_from, sk_firstDependency, sk_firstChange, sk_dependencies, sk_hashes, sk_byHash, sk_leansOn, sk_leantBy, sk_changes, sk_lines, sk_patches])), (b_y, .inl (cB, 290000, .inl f))]) [1, 2] (by decide) rfl
          have hFc := va_free (wc := [(sk, .inr (9, [.ref b_y, sk_from, sk_firstDependency, sk_firstChange, sk_dependencies, sk_hashes, sk_byHash, sk_leansOn, sk_leantBy, sk_changes, sk_lines, sk_patches])), (b_y, .inl (cB, 290000, .inl f))]) hD hS hA [1, 2] rfl
          refine va_calli (va_runV (As := [.int (nI (rf + 2))]) (rest := []) ⟨hx, hb, hml, hown, hts⟩ (m_St_two l dC dI cI cB cL cZ cR sk b_y (sk_from) (sk_firstDependency) (sk_firstChange) (sk_dependencies) (sk_hashes) (sk_byHash) (sk_leansOn) (sk_leantBy) (sk_changes) (sk_lines) (sk_patches) f (rf + 2) H.size (by omega)) (cwV 1 hts (xg_V gw_815 gw_771 gw_772 gw_3 gw_773) rfl rfl rfl (by decide +kernel) ⟨Nat.le_of_ble_eq_true rfl, Nat.le_of_ble_eq_true rfl⟩) ⟨xw_blind, va_recv hK hPc (ci := 9) (q0 := 0) rfl rfl, fun U hU hW => ⟨rfl, by rw [hU], by rw [hU]; exact hPc, va_K.moved hW.alike hK, hDc.weaken (fun _ _ _ _ => trivial)⟩⟩ rfl rfl hl.1 rfl (lv_room (Nat.le_of_ble_eq_true rfl)) d_In_isAmong_44 ⟨Nat.le_of_ble_eq_true rfl, Nat.le_of_ble_eq_true rfl⟩) hS (fun q _ h => hFc q h) hFc (fun r9 u t H1 locs ht hvm hw hB hz1 hk1 hS => ?_)
          obtain ⟨hP1, hK1, hD1⟩ := hB
          rw [ht] at hP1
          obtain ⟨hP, hD⟩ := va_join (wr := [(h, .inr (3, [.ref sk, it_changes, it_lines, it_sha, it_form, it_named, it_linesOfFile, it_nextFile, it_nextLine]))]) (w1 := [(sk, .inr (9, [.ref b_y, sk_from, sk_firstDependency, sk_firstChange, sk_dependencies, sk_hashes, sk_byHash, sk_leansOn, sk_leantBy, sk_changes, sk_lines, sk_patches])), (b_y, .inl (cB, 290000, .inl f))]) hP hD [1, 2] [0] rfl rfl (by decide) (by decide) hk1 hFc hP1 hD1
          generalize H1 = H at hP hS ⊢
          have hP : va_P (dC, dI) classes [(h, .inr (3, [.ref sk, it_changes, it_lines, it_sha, it_form, it_named, it_linesOfFile, it_nextFile, it_nextLine])), (sk, .inr (9, [.ref b_y, sk_from, sk_firstDependency, sk_firstChange, sk_dependencies, sk_hashes, sk_byHash, sk_leansOn, sk_leantBy, sk_changes, sk_lines, sk_patches])), (b_y, .inl (cB, 290000, .inl f))] H := hP
          have hD : va_D A [(h, .inr (3, [.ref sk, it_changes, it_lines, it_sha, it_form, it_named, it_linesOfFile, it_nextFile, it_nextLine])), (sk, .inr (9, [.ref b_y, sk_from, sk_firstDependency, sk_firstChange, sk_dependencies, sk_hashes, sk_byHash, sk_leansOn, sk_leantBy, sk_changes, sk_lines, sk_patches])), (b_y, .inl (cB, 290000, .inl f))] := hD
          subst hw
          have htw9 := tw_lt f (rf + 2)
          refine lv_aload_n hx hb d_In_isAmong_47 rfl (lv_at hl 1 rfl) ?_
          refine va_get (D := (dC, dI)) (ci := 3) (v := .ref sk) (C := R_In) (T := F_In) (N := 9) hx hb hts i_In hown hK hP 0 rfl rfl 0 (by decide) (hts _ gw_284) (fun _ h9 => h9) rfl d_In_isAmong_48 ?_
          refine lv_iload hx hb d_In_isAmong_51 (lv_at hl 0 rfl) ?_
          refine lv_iconst (v := 2) hx hb d_In_isAmong_53 (by decide) ?_
          refine lv_iadd hx hb d_In_isAmong_54 ?_
          refine lv_topi (fun x_4 ex_4 => ?_)
          obtain rfl : x_4 = nI ((fi + (4 * i)) + 2) := by rw [ex_4]; first | done | (exact nI_add _ _)
          have hPc := hP.sub (ws' := [(sk, .inr (9, [.ref b_y, sk_from, sk_firstDependency, sk_firstChange, sk_dependencies, sk_hashes, sk_byHash, sk_leansOn, sk_leantBy, sk_changes, sk_lines, sk_patches])), (b_y, .inl (cB, 290000, .inl f))]) [1, 2] rfl
          have hDc := hD.sub (ws' := [(sk, .inr (9, [.ref b_y, sk_from, sk_firstDependency, sk_firstChange, sk_dependencies, sk_hashes, sk_byHash, sk_leansOn, sk_leantBy, sk_changes, sk_lines, sk_patches])), (b_y, .inl (cB, 290000, .inl f))]) [1, 2] (by decide) rfl
          have hFc := va_free (wc := [(sk, .inr (9, [.ref b_y, sk_from, sk_firstDependency, sk_firstChange, sk_dependencies, sk_hashes, sk_byHash, sk_leansOn, sk_leantBy, sk_changes, sk_lines, sk_patches])), (b_y, .inl (cB, 290000, .inl f))]) hD hS hA [1, 2] rfl
          refine va_calli (va_runV (As := [.int (nI ((fi + (4 * i)) + 2))]) (rest := [.int (nI (tw f (rf + 2)))]) ⟨hx, hb, hml, hown, hts⟩ (m_St_two l dC dI cI cB cL cZ cR sk b_y (sk_from) (sk_firstDependency) (sk_firstChange) (sk_dependencies) (sk_hashes) (sk_byHash) (sk_leansOn) (sk_leantBy) (sk_changes) (sk_lines) (sk_patches) f ((fi + (4 * i)) + 2) H.size (by omega)) (cwV 1 hts (xg_V gw_815 gw_771 gw_772 gw_3 gw_773) rfl rfl rfl (by decide +kernel) ⟨Nat.le_of_ble_eq_true rfl, Nat.le_of_ble_eq_true rfl⟩) ⟨xw_blind, va_recv hK hPc (ci := 9) (q0 := 0) rfl rfl, fun U hU hW => ⟨rfl, by rw [hU], by rw [hU]; exact hPc, va_K.moved hW.alike hK, hDc.weaken (fun _ _ _ _ => trivial)⟩⟩ rfl rfl hl.1 rfl (lv_room (Nat.le_of_ble_eq_true rfl)) d_In_isAmong_55 ⟨Nat.le_of_ble_eq_true rfl, Nat.le_of_ble_eq_true rfl⟩) hS (fun q _ h => hFc q h) hFc (fun r9 u t H1 locs ht hvm hw hB hz1 hk1 hS => ?_)
          obtain ⟨hP1, hK1, hD1⟩ := hB
          rw [ht] at hP1
          obtain ⟨hP, hD⟩ := va_join (wr := [(h, .inr (3, [.ref sk, it_changes, it_lines, it_sha, it_form, it_named, it_linesOfFile, it_nextFile, it_nextLine]))]) (w1 := [(sk, .inr (9, [.ref b_y, sk_from, sk_firstDependency, sk_firstChange, sk_dependencies, sk_hashes, sk_byHash, sk_leansOn, sk_leantBy, sk_changes, sk_lines, sk_patches])), (b_y, .inl (cB, 290000, .inl f))]) hP hD [1, 2] [0] rfl rfl (by decide) (by decide) hk1 hFc hP1 hD1
          generalize H1 = H at hP hS ⊢
          have hP : va_P (dC, dI) classes [(h, .inr (3, [.ref sk, it_changes, it_lines, it_sha, it_form, it_named, it_linesOfFile, it_nextFile, it_nextLine])), (sk, .inr (9, [.ref b_y, sk_from, sk_firstDependency, sk_firstChange, sk_dependencies, sk_hashes, sk_byHash, sk_leansOn, sk_leantBy, sk_changes, sk_lines, sk_patches])), (b_y, .inl (cB, 290000, .inl f))] H := hP
          have hD : va_D A [(h, .inr (3, [.ref sk, it_changes, it_lines, it_sha, it_form, it_named, it_linesOfFile, it_nextFile, it_nextLine])), (sk, .inr (9, [.ref b_y, sk_from, sk_firstDependency, sk_firstChange, sk_dependencies, sk_hashes, sk_byHash, sk_leansOn, sk_leantBy, sk_changes, sk_lines, sk_patches])), (b_y, .inl (cB, 290000, .inl f))] := hD
          subst hw
          have htw9 := tw_lt f ((fi + (4 * i)) + 2)
          refine lv_icmp_ne (tgt := 63) hx hb d_In_isAmong_58 (by decide) (fun c_58 => ?_) (fun c_58 => ?_)
          · have n_58 : ¬ (tw f (rf + 2)) = (tw f ((fi + (4 * i)) + 2)) := fun z => c_58 ((nI_eq (a := (tw f (rf + 2))) (b := (tw f ((fi + (4 * i)) + 2))) (by omega) (by omega)).mpr z)
            have hne : ¬ (tw f rf = tw f (fi + 4 * i) ∧ tw f (rf + 2) = tw f (fi + 4 * i + 2)) := fun z => n_58 z.2
            refine lv_iinc (v := nI (i + 1)) (lv' := [(4, .int (nI (i + 1))), (5, .int (nI (fi + (4 * i)))), (0, .ref h), (1, .int (nI rf)), (2, .int (nI fi)), (3, .int (nI n))]) hx hb d_In_isAmong_63 hl (k := 5) rfl (by exact nI_add _ _) (by decide) rfl (fun ls hl => ?_)
            refine lv_goto (tgt := 3) hx hb d_In_isAmong_66 (by decide) ?_
            exact ih_3 (i + 1) _ _ _ (by omega) (by omega) (fun j z => if h9 : j = i then h9 ▸ hne else hq j (by omega)) hP hD hS (lv_sub hl [2, 3, 4, 5, 0] rfl)
          · have n_58 : (tw f (rf + 2)) = (tw f ((fi + (4 * i)) + 2)) := (nI_eq (a := (tw f (rf + 2))) (b := (tw f ((fi + (4 * i)) + 2))) (by omega) (by omega)).mp c_58
            refine lv_iconst (v := 1) hx hb d_In_isAmong_61 (by decide) ?_
            rw [← hQe]
            exact W.zret (v := 1) hx hb hr nz_b1 (fun t ht hW => ⟨⟨_, (), rfl, Or.inl ⟨rfl, i, n_6, n_34, n_58⟩, by rw [ht]; exact hP, va_K.moved hW.alike hK, hD⟩, hS.F ht⟩) hS.2.2 d_In_isAmong_62
  exact loop_3 _ 0 _ _ _ (Nat.lt_succ_self _) (Nat.zero_le _) (fun j z => absurd z (Nat.not_lt_zero _)) hP hD hS (lv_sub hl [1, 2, 3, 4, 0] rfl)
set_option maxHeartbeats 4000000 in
set_option maxRecDepth 100000 in
/-- the change that a ref of the candidate names -/
theorem m_In_changeNamed (l : Launch) (dC : Nat → ClassId) (dI : Nat → Nat → Nat) (cI cB cL cZ cR : ClassId) (h sk b_y fdA dpA fcA naA : Nat) (it_changes it_lines it_sha it_form it_linesOfFile it_nextFile it_nextLine sk_from sk_hashes sk_byHash sk_leansOn sk_leantBy sk_changes sk_lines : Value) (f fdf dpf fcf nf : Nat → Int32) (DP FC : Nat → Nat) (P D0 nd cc k : Nat) (sz : Nat) (hk : k + 3 < 290000) (hP5 : P ≤ 500) (gE0 : fdf P = nI D0) (gE1 : fdf (P + 1) = nI (D0 + nd)) (hnd : nd ≤ 2048) (hDr : D0 + nd ≤ 8400) (gD : ∀ i, i < nd → dpf (D0 + i) = nI (DP i) ∧ DP i < P) (gC : ∀ i, i ≤ P → fcf i = nI (FC i) ∧ FC i ≤ 38000) (hcc : cc ≤ 38000) : Met l y_In_changeNamed ws_In_changeNamed ({ frames := 1, cells := 0, slots := 0, locals := 60 }) (xw_Pc dC dI [(cI, .int), (cB, .byte), (cL, .long), (cZ, .boolean), (cR, .object "PatchStore$Repository")] [.ref h, .int (nI cc), .int (nI k)] [(h, .inr (3, [.ref sk, it_changes, it_lines, it_sha, it_form, .ref naA, it_linesOfFile, it_nextFile, it_nextLine])), (sk, .inr (9, [.ref b_y, sk_from, .ref fdA, .ref fcA, .ref dpA, sk_hashes, sk_byHash, sk_leansOn, sk_leantBy, sk_changes, sk_lines, .int (nI P)])), (b_y, .inl (cB, 290000, .inl f)), (fdA, .inl (cI, 502, .inl fdf)), (dpA, .inl (cI, 8400, .inl dpf)), (fcA, .inl (cI, 502, .inl fcf)), (naA, .inl (cI, 2048, .inl nf))] sz) (va_Qi (fun (r : Int32) (u : Nat × (Nat → Int32)) => ((cnR f DP FC P nd cc k u.1 ∧ r = nI u.1) ∨ (r = -1 ∧ ∀ q, ¬ cnR f DP FC P nd cc k q)) ∧ u.2 = nmU f nd k nf) (fun u t => xw_B dC dI [(cI, .int), (cB, .byte), (cL, .long), (cZ, .boolean), (cR, .object "PatchStore$Repository")] (va_A [(h, .inr (3, [.ref sk, it_changes, it_lines, it_sha, it_form, .ref naA, it_linesOfFile, it_nextFile, it_nextLine])), (sk, .inr (9, [.ref b_y, sk_from, .ref fdA, .ref fcA, .ref dpA, sk_hashes, sk_byHash, sk_leansOn, sk_leantBy, sk_changes, sk_lines, .int (nI P)])), (b_y, .inl (cB, 290000, .inl f)), (fdA, .inl (cI, 502, .inl fdf)), (dpA, .inl (cI, 8400, .inl dpf)), (fcA, .inl (cI, 502, .inl fcf)), (naA, .inl (cI, 2048, .inl nf))] sz) [(h, .inr (3, [.ref sk, it_changes, it_lines, it_sha, it_form, .ref naA, it_linesOfFile, it_nextFile, it_nextLine])), (sk, .inr (9, [.ref b_y, sk_from, .ref fdA, .ref fcA, .ref dpA, sk_hashes, sk_byHash, sk_leansOn, sk_leantBy, sk_changes, sk_lines, .int (nI P)])), (b_y, .inl (cB, 290000, .inl f)), (fdA, .inl (cI, 502, .inl fdf)), (dpA, .inl (cI, 8400, .inl dpf)), (fcA, .inl (cI, 502, .inl fcf)), (naA, .inl (cI, 2048, .inl u.2))] t) (va_A [(h, .inr (3, [.ref sk, it_changes, it_lines, it_sha, it_form, .ref naA, it_linesOfFile, it_nextFile, it_nextLine])), (sk, .inr (9, [.ref b_y, sk_from, .ref fdA, .ref fcA, .ref dpA, sk_hashes, sk_byHash, sk_leansOn, sk_leantBy, sk_changes, sk_lines, .int (nI P)])), (b_y, .inl (cB, 290000, .inl f)), (fdA, .inl (cI, 502, .inl fdf)), (dpA, .inl (cI, 8400, .inl dpf)), (fcA, .inl (cI, 502, .inl fcf)), (naA, .inl (cI, 2048, .inl nf))] sz)) 0 0 (va_A [(h, .inr (3, [.ref sk, it_changes, it_lines, it_sha, it_form, .ref naA, it_linesOfFile, it_nextFile, it_nextLine])), (sk, .inr (9, [.ref b_y, sk_from, .ref fdA, .ref fcA, .ref dpA, sk_hashes, sk_byHash, sk_leansOn, sk_leantBy, sk_changes, sk_lines, .int (nI P)])), (b_y, .inl (cB, 290000, .inl f)), (fdA, .inl (cI, 502, .inl fdf)), (dpA, .inl (cI, 8400, .inl dpf)), (fcA, .inl (cI, 502, .inl fcf)), (naA, .inl (cI, 2048, .inl nf))] sz) := by
  refine Met.ofW (cc := prog_4_method_11_code) (maxL := 7) (ret := (Option.some Jvm.ClassFile.FieldType.int)) (by decide) rfl ?_
  intro p e s m args below meth c s₁ B hml hv
  obtain ⟨rfl, hsz, hP, hK, hD0⟩ := hv
  have hx := B.exec
  have hb := B.bytes
  have hr := B.returns
  have hts0 := atoms_spec (ws := ws_In_changeNamed) B.pre
  have hts : ∀ w ∈ xg_1, w.before _ s = true := fun w h => hts0 w (List.mem_cons_of_mem _ h)
  have hown : s.vm.findClass "PatchStore$Intake" = some m.cls := findClass_of_methodNamed B.named
  have hlocks := B.notSynchronized
  subst hsz
  have hD := hD0.self (sz := s.heap.size)
  generalize hAe : va_A [(h, .inr (3, [.ref sk, it_changes, it_lines, it_sha, it_form, .ref naA, it_linesOfFile, it_nextFile, it_nextLine])), (sk, .inr (9, [.ref b_y, sk_from, .ref fdA, .ref fcA, .ref dpA, sk_hashes, sk_byHash, sk_leansOn, sk_leantBy, sk_changes, sk_lines, .int (nI P)])), (b_y, .inl (cB, 290000, .inl f)), (fdA, .inl (cI, 502, .inl fdf)), (dpA, .inl (cI, 8400, .inl dpf)), (fcA, .inl (cI, 502, .inl fcf)), (naA, .inl (cI, 2048, .inl nf))] s.heap.size = A at hD ⊢
  have hA : ∀ q : Nat, s.heap.size ≤ q → A q := fun q h => by rw [← hAe]; exact Or.inr h
  have hS : va_S A s.heap s.heap [] := va_S.rf
  have hl := lv_entry ([.ref h, .int (nI cc), .int (nI k)]) (n := 7) (Nat.le_of_ble_eq_true rfl)
  rw [lg_entry_eq]
  generalize (lg_sl ([.ref h, .int (nI cc), .int (nI k)]) ++ List.replicate (7 - (lg_sl ([.ref h, .int (nI cc), .int (nI k)])).length) Slot.unset).toArray = ls at hl ⊢
  have hl : lv_has ls 7 [(0, .ref h), (1, .int (nI cc)), (2, .int (nI k))] := hl
  refine lv_aload_n hx hb d_In_changeNamed_0 rfl (lv_at hl 0 rfl) ?_
  refine va_get (D := (dC, dI)) (ci := 3) (v := .ref sk) (C := R_In) (T := F_In) (N := 9) hx hb hts i_In hown hK hP 0 rfl rfl 0 (by decide) (hts _ gw_284) (fun _ h9 => h9) rfl d_In_changeNamed_1 ?_
  refine lv_iload_n hx hb d_In_changeNamed_4 rfl (lv_at hl 2 rfl) ?_
  have hPc := hP.sub (ws' := [(sk, .inr (9, [.ref b_y, sk_from, .ref fdA, .ref fcA, .ref dpA, sk_hashes, sk_byHash, sk_leansOn, sk_leantBy, sk_changes, sk_lines, .int (nI P)])), (b_y, .inl (cB, 290000, .inl f))]) [1, 2] rfl
  have hDc := hD.sub (ws' := [(sk, .inr (9, [.ref b_y, sk_from, .ref fdA, .ref fcA, .ref dpA, sk_hashes, sk_byHash, sk_leansOn, sk_leantBy, sk_changes, sk_lines, .int (nI P)])), (b_y, .inl (cB, 290000, .inl f))]) [1, 2] (by decide) rfl
  have hFc := va_free (wc := [(sk, .inr (9, [.ref b_y, sk_from, .ref fdA, .ref fcA, .ref dpA, sk_hashes, sk_byHash, sk_leansOn, sk_leantBy, sk_changes, sk_lines, .int (nI P)])), (b_y, .inl (cB, 290000, .inl f))]) hD hS hA [1, 2] rfl
  refine va_calli (va_runV (As := [.int (nI k)]) (rest := []) ⟨hx, hb, hml, hown, hts⟩ (m_St_two l dC dI cI cB cL cZ cR sk b_y (sk_from) (.ref fdA) (.ref fcA) (.ref dpA) (sk_hashes) (sk_byHash) (sk_leansOn) (sk_leantBy) (sk_changes) (sk_lines) (.int (nI P)) f k s.heap.size (by omega)) (cwV 1 hts (xg_V gw_815 gw_771 gw_772 gw_3 gw_773) rfl rfl rfl (by decide +kernel) ⟨Nat.le_of_ble_eq_true rfl, Nat.le_of_ble_eq_true rfl⟩) ⟨xw_blind, va_recv hK hPc (ci := 9) (q0 := 0) rfl rfl, fun U hU hW => ⟨rfl, by rw [hU], by rw [hU]; exact hPc, va_K.moved hW.alike hK, hDc.weaken (fun _ _ _ _ => trivial)⟩⟩ rfl rfl hl.1 rfl (lv_room (Nat.le_of_ble_eq_true rfl)) d_In_changeNamed_5 ⟨Nat.le_of_ble_eq_true rfl, Nat.le_of_ble_eq_true rfl⟩) hS (fun q _ h => hFc q h) hFc (fun r9 u t H1 locs ht hvm hw hB hz1 hk1 hS => ?_)
  obtain ⟨hP1, hK1, hD1⟩ := hB
  rw [ht] at hP1
  obtain ⟨hP, hD⟩ := va_join (wr := [(h, .inr (3, [.ref sk, it_changes, it_lines, it_sha, it_form, .ref naA, it_linesOfFile, it_nextFile, it_nextLine])), (fdA, .inl (cI, 502, .inl fdf)), (dpA, .inl (cI, 8400, .inl dpf)), (fcA, .inl (cI, 502, .inl fcf)), (naA, .inl (cI, 2048, .inl nf))]) (w1 := [(sk, .inr (9, [.ref b_y, sk_from, .ref fdA, .ref fcA, .ref dpA, sk_hashes, sk_byHash, sk_leansOn, sk_leantBy, sk_changes, sk_lines, .int (nI P)])), (b_y, .inl (cB, 290000, .inl f))]) hP hD [1, 2] [0, 3, 4, 5, 6] rfl rfl (by decide) (by decide) hk1 hFc hP1 hD1
  generalize H1 = H at hP hS ⊢
  have hP : va_P (dC, dI) classes [(h, .inr (3, [.ref sk, it_changes, it_lines, it_sha, it_form, .ref naA, it_linesOfFile, it_nextFile, it_nextLine])), (fdA, .inl (cI, 502, .inl fdf)), (dpA, .inl (cI, 8400, .inl dpf)), (fcA, .inl (cI, 502, .inl fcf)), (naA, .inl (cI, 2048, .inl nf)), (sk, .inr (9, [.ref b_y, sk_from, .ref fdA, .ref fcA, .ref dpA, sk_hashes, sk_byHash, sk_leansOn, sk_leantBy, sk_changes, sk_lines, .int (nI P)])), (b_y, .inl (cB, 290000, .inl f))] H := hP
  have hD : va_D A [(h, .inr (3, [.ref sk, it_changes, it_lines, it_sha, it_form, .ref naA, it_linesOfFile, it_nextFile, it_nextLine])), (fdA, .inl (cI, 502, .inl fdf)), (dpA, .inl (cI, 8400, .inl dpf)), (fcA, .inl (cI, 502, .inl fcf)), (naA, .inl (cI, 2048, .inl nf)), (sk, .inr (9, [.ref b_y, sk_from, .ref fdA, .ref fcA, .ref dpA, sk_hashes, sk_byHash, sk_leansOn, sk_leantBy, sk_changes, sk_lines, .int (nI P)])), (b_y, .inl (cB, 290000, .inl f))] := hD
  subst hw
  have htw9 := tw_lt f k
  refine lv_istore_n (lv' := [(3, .int (nI (tw f k))), (0, .ref h), (1, .int (nI cc)), (2, .int (nI k))]) hx hb d_In_changeNamed_8 rfl hl (by decide) rfl (fun ls hl => ?_)
  refine lv_aload_n hx hb d_In_changeNamed_9 rfl (lv_at hl 1 rfl) ?_
  refine va_get (D := (dC, dI)) (ci := 3) (v := .ref sk) (C := R_In) (T := F_In) (N := 9) hx hb hts i_In hown hK hP 0 rfl rfl 0 (by decide) (hts _ gw_284) (fun _ h9 => h9) rfl d_In_changeNamed_10 ?_
  refine va_get (D := (dC, dI)) (ci := 9) (v := .ref fdA) (C := R_St) (T := F_St) (N := 12) hx hb hts i_St hown hK hP 5 rfl rfl 2 (by decide) (hts _ gw_195) (fun _ h9 => h9) rfl d_In_changeNamed_13 ?_
  refine lv_aload_n hx hb d_In_changeNamed_16 rfl (lv_at hl 1 rfl) ?_
  refine va_get (D := (dC, dI)) (ci := 3) (v := .ref sk) (C := R_In) (T := F_In) (N := 9) hx hb hts i_In hown hK hP 0 rfl rfl 0 (by decide) (hts _ gw_284) (fun _ h9 => h9) rfl d_In_changeNamed_17 ?_
  refine va_get (D := (dC, dI)) (ci := 9) (v := .int (nI P)) (C := R_St) (T := F_St) (N := 12) hx hb hts i_St hown hK hP 5 rfl rfl 11 (by decide) (hts _ gw_238) (fun _ h9 => h9) rfl d_In_changeNamed_20 ?_
  refine va_iald hx hb hK hP 1 0 rfl rfl (vp_in_nI (by omega) (by omega)) d_In_changeNamed_23 ?_
  rw [show (nI P).toNatClampNeg = P from nI_clamp (by omega)]
  refine lv_topi (fun x_1 ex_1 => ?_)
  obtain rfl : x_1 = nI D0 := by rw [ex_1]; first | done | (exact gE0)
  refine lv_istore (lv' := [(4, .int (nI D0)), (3, .int (nI (tw f k))), (0, .ref h), (1, .int (nI cc)), (2, .int (nI k))]) hx hb d_In_changeNamed_24 hl (by decide) rfl (fun ls hl => ?_)
  refine lv_iload_n hx hb d_In_changeNamed_26 rfl (lv_at hl 1 rfl) ?_
  refine lv_ldc (own := "PatchStore$Intake") hx hb hown (hts _ gw_888) d_In_changeNamed_27 ?_
  refine lv_icmp_ne (tgt := 73) hx hb d_In_changeNamed_29 (by decide) (fun c_29 => ?_) (fun c_29 => ?_)
  · have n_29 : ¬ (tw f k) = 65535 := fun z => c_29 ((nI_eq (a := (tw f k)) (b := 65535) (by omega) (by omega)).mpr z)
    refine lv_iload_n hx hb d_In_changeNamed_73 rfl (lv_at hl 1 rfl) ?_
    refine lv_aload_n hx hb d_In_changeNamed_74 rfl (lv_at hl 2 rfl) ?_
    refine va_get (D := (dC, dI)) (ci := 3) (v := .ref sk) (C := R_In) (T := F_In) (N := 9) hx hb hts i_In hown hK hP 0 rfl rfl 0 (by decide) (hts _ gw_284) (fun _ h9 => h9) rfl d_In_changeNamed_75 ?_
    refine va_get (D := (dC, dI)) (ci := 9) (v := .ref fdA) (C := R_St) (T := F_St) (N := 12) hx hb hts i_St hown hK hP 5 rfl rfl 2 (by decide) (hts _ gw_195) (fun _ h9 => h9) rfl d_In_changeNamed_78 ?_
    refine lv_aload_n hx hb d_In_changeNamed_81 rfl (lv_at hl 2 rfl) ?_
    refine va_get (D := (dC, dI)) (ci := 3) (v := .ref sk) (C := R_In) (T := F_In) (N := 9) hx hb hts i_In hown hK hP 0 rfl rfl 0 (by decide) (hts _ gw_284) (fun _ h9 => h9) rfl d_In_changeNamed_82 ?_
    refine va_get (D := (dC, dI)) (ci := 9) (v := .int (nI P)) (C := R_St) (T := F_St) (N := 12) hx hb hts i_St hown hK hP 5 rfl rfl 11 (by decide) (hts _ gw_238) (fun _ h9 => h9) rfl d_In_changeNamed_85 ?_
    refine lv_iconst (v := 1) hx hb d_In_changeNamed_88 (by decide) ?_
    refine lv_iadd hx hb d_In_changeNamed_89 ?_
    refine lv_topi (fun x_2 ex_2 => ?_)
    obtain rfl : x_2 = nI (P + 1) := by rw [ex_2]; first | done | (exact nI_add _ _)
    refine va_iald hx hb hK hP 1 0 rfl rfl (vp_in_nI (by omega) (by omega)) d_In_changeNamed_90 ?_
    rw [show (nI (P + 1)).toNatClampNeg = (P + 1) from nI_clamp (by omega)]
    refine lv_topi (fun x_3 ex_3 => ?_)
    obtain rfl : x_3 = nI (D0 + nd) := by rw [ex_3]; first | done | (exact gE1)
    refine lv_iload hx hb d_In_changeNamed_91 (lv_at hl 0 rfl) ?_
    refine lv_isub hx hb d_In_changeNamed_93 ?_
    refine lv_topi (fun x_4 ex_4 => ?_)
    obtain rfl : x_4 = nI nd := by rw [ex_4]; first | done | (exact (nI_subN (by omega)).trans (by rw [show D0 + nd - D0 = nd by omega]))
    refine lv_icmp_ge (tgt := 104) hx hb d_In_changeNamed_94 (by decide) (fun c_94 => ?_) (fun c_94 => ?_)
    · have n_94 : nd ≤ (tw f k) := (nI_leI (a := nd) (b := (tw f k)) (by omega) (by omega)).mp c_94
      refine lv_iconst (v := (-1)) hx hb d_In_changeNamed_104 (by decide) ?_
      have hP := hP.sub (ws' := [(h, .inr (3, [.ref sk, it_changes, it_lines, it_sha, it_form, .ref naA, it_linesOfFile, it_nextFile, it_nextLine])), (sk, .inr (9, [.ref b_y, sk_from, .ref fdA, .ref fcA, .ref dpA, sk_hashes, sk_byHash, sk_leansOn, sk_leantBy, sk_changes, sk_lines, .int (nI P)])), (b_y, .inl (cB, 290000, .inl f)), (fdA, .inl (cI, 502, .inl fdf)), (dpA, .inl (cI, 8400, .inl dpf)), (fcA, .inl (cI, 502, .inl fcf)), (naA, .inl (cI, 2048, .inl nf))]) [0, 5, 6, 1, 2, 3, 4] rfl
      have hD := hD.sub (ws' := [(h, .inr (3, [.ref sk, it_changes, it_lines, it_sha, it_form, .ref naA, it_linesOfFile, it_nextFile, it_nextLine])), (sk, .inr (9, [.ref b_y, sk_from, .ref fdA, .ref fcA, .ref dpA, sk_hashes, sk_byHash, sk_leansOn, sk_leantBy, sk_changes, sk_lines, .int (nI P)])), (b_y, .inl (cB, 290000, .inl f)), (fdA, .inl (cI, 502, .inl fdf)), (dpA, .inl (cI, 8400, .inl dpf)), (fcA, .inl (cI, 502, .inl fcf)), (naA, .inl (cI, 2048, .inl nf))]) [0, 5, 6, 1, 2, 3, 4] (by decide) rfl
      exact W.iret (v := (-1)) hx hb hr (fun t ht hW => ⟨⟨_, (0, nf), rfl, ⟨Or.inr ⟨rfl, fun q z => z.elim (fun z => n_29 z.1) (fun z => absurd z.1 (by omega))⟩, (if_neg (by omega)).symm⟩, by rw [ht]; exact hP, va_K.moved hW.alike hK, hD⟩, hS.F ht⟩) hS.2.2 d_In_changeNamed_105
    · have n_94 : (tw f k) < nd := Nat.lt_of_not_le (fun z => c_94 ((nI_leI (a := nd) (b := (tw f k)) (by omega) (by omega)).mpr z))
      have g0 := (gD _ n_94).2
      have g1 := (gC (DP (tw f k)) (by omega)).2
      have g2 := (gC (DP (tw f k) + 1) (by omega)).2
      refine lv_iload_n hx hb d_In_changeNamed_97 rfl (lv_at hl 1 rfl) ?_
      refine lv_sipush (v := 2048) hx hb d_In_changeNamed_98 (by decide) ?_
      refine lv_icmp_lt (tgt := 106) hx hb d_In_changeNamed_101 (by decide) (fun _ => ?_) (fun c_101 => absurd ((nI_ltI (a := tw f k) (b := 2048) (by omega) (by omega)).mpr (by omega)) c_101)
      refine lv_aload_n hx hb d_In_changeNamed_106 rfl (lv_at hl 2 rfl) ?_
      refine va_get (D := (dC, dI)) (ci := 3) (v := .ref naA) (C := R_In) (T := F_In) (N := 9) hx hb hts i_In hown hK hP 0 rfl rfl 5 (by decide) (hts _ gw_289) (fun _ h9 => h9) rfl d_In_changeNamed_107 ?_
      refine lv_iload_n hx hb d_In_changeNamed_110 rfl (lv_at hl 1 rfl) ?_
      refine lv_iconst (v := 1) hx hb d_In_changeNamed_111 (by decide) ?_
      refine va_iast hx hb hK hP hD hS 4 0 rfl rfl (vp_in_nI (by omega) (by omega)) d_In_changeNamed_112 (fun H locs hP hD hS => ?_)
      rw [show (nI (tw f k)).toNatClampNeg = (tw f k) from nI_clamp (by omega)] at hP hD
      have hP : va_P (dC, dI) classes [(h, .inr (3, [.ref sk, it_changes, it_lines, it_sha, it_form, .ref naA, it_linesOfFile, it_nextFile, it_nextLine])), (fdA, .inl (cI, 502, .inl fdf)), (dpA, .inl (cI, 8400, .inl dpf)), (fcA, .inl (cI, 502, .inl fcf)), (naA, .inl (cI, 2048, .inl (upd nf (tw f k) 1))), (sk, .inr (9, [.ref b_y, sk_from, .ref fdA, .ref fcA, .ref dpA, sk_hashes, sk_byHash, sk_leansOn, sk_leantBy, sk_changes, sk_lines, .int (nI P)])), (b_y, .inl (cB, 290000, .inl f))] H := hP
      have hD : va_D A [(h, .inr (3, [.ref sk, it_changes, it_lines, it_sha, it_form, .ref naA, it_linesOfFile, it_nextFile, it_nextLine])), (fdA, .inl (cI, 502, .inl fdf)), (dpA, .inl (cI, 8400, .inl dpf)), (fcA, .inl (cI, 502, .inl fcf)), (naA, .inl (cI, 2048, .inl (upd nf (tw f k) 1))), (sk, .inr (9, [.ref b_y, sk_from, .ref fdA, .ref fcA, .ref dpA, sk_hashes, sk_byHash, sk_leansOn, sk_leantBy, sk_changes, sk_lines, .int (nI P)])), (b_y, .inl (cB, 290000, .inl f))] := hD
      refine lv_aload_n hx hb d_In_changeNamed_113 rfl (lv_at hl 2 rfl) ?_
      refine va_get (D := (dC, dI)) (ci := 3) (v := .ref sk) (C := R_In) (T := F_In) (N := 9) hx hb hts i_In hown hK hP 0 rfl rfl 0 (by decide) (hts _ gw_284) (fun _ h9 => h9) rfl d_In_changeNamed_114 ?_
      refine va_get (D := (dC, dI)) (ci := 9) (v := .ref dpA) (C := R_St) (T := F_St) (N := 12) hx hb hts i_St hown hK hP 5 rfl rfl 4 (by decide) (hts _ gw_203) (fun _ h9 => h9) rfl d_In_changeNamed_117 ?_
      refine lv_iload hx hb d_In_changeNamed_120 (lv_at hl 0 rfl) ?_
      refine lv_iload_n hx hb d_In_changeNamed_122 rfl (lv_at hl 1 rfl) ?_
      refine lv_iadd hx hb d_In_changeNamed_123 ?_
      refine lv_topi (fun x_5 ex_5 => ?_)
      obtain rfl : x_5 = nI (D0 + (tw f k)) := by rw [ex_5]; first | done | (exact nI_add _ _)
      refine va_iald hx hb hK hP 2 0 rfl rfl (vp_in_nI (by omega) (by omega)) d_In_changeNamed_124 ?_
      rw [show (nI (D0 + (tw f k))).toNatClampNeg = (D0 + (tw f k)) from nI_clamp (by omega)]
      refine lv_topi (fun x_6 ex_6 => ?_)
      obtain rfl : x_6 = nI (DP (tw f k)) := by rw [ex_6]; first | done | (exact (gD _ n_94).1)
      refine lv_istore (lv' := [(5, .int (nI (DP (tw f k)))), (4, .int (nI D0)), (3, .int (nI (tw f k))), (0, .ref h), (1, .int (nI cc)), (2, .int (nI k))]) hx hb d_In_changeNamed_125 hl (by decide) rfl (fun ls hl => ?_)
      refine lv_aload_n hx hb d_In_changeNamed_127 rfl (lv_at hl 3 rfl) ?_
      refine va_get (D := (dC, dI)) (ci := 3) (v := .ref sk) (C := R_In) (T := F_In) (N := 9) hx hb hts i_In hown hK hP 0 rfl rfl 0 (by decide) (hts _ gw_284) (fun _ h9 => h9) rfl d_In_changeNamed_128 ?_
      refine va_get (D := (dC, dI)) (ci := 9) (v := .ref fcA) (C := R_St) (T := F_St) (N := 12) hx hb hts i_St hown hK hP 5 rfl rfl 3 (by decide) (hts _ gw_200) (fun _ h9 => h9) rfl d_In_changeNamed_131 ?_
      refine lv_iload hx hb d_In_changeNamed_134 (lv_at hl 0 rfl) ?_
      refine va_iald hx hb hK hP 3 0 rfl rfl (vp_in_nI (by omega) (by omega)) d_In_changeNamed_136 ?_
      rw [show (nI (DP (tw f k))).toNatClampNeg = (DP (tw f k)) from nI_clamp (by omega)]
      refine lv_topi (fun x_7 ex_7 => ?_)
      obtain rfl : x_7 = nI (FC (DP (tw f k))) := by rw [ex_7]; first | done | (exact (gC _ (by omega)).1)
      refine lv_aload_n hx hb d_In_changeNamed_137 rfl (lv_at hl 3 rfl) ?_
      refine va_get (D := (dC, dI)) (ci := 3) (v := .ref sk) (C := R_In) (T := F_In) (N := 9) hx hb hts i_In hown hK hP 0 rfl rfl 0 (by decide) (hts _ gw_284) (fun _ h9 => h9) rfl d_In_changeNamed_138 ?_
      refine lv_iload_n hx hb d_In_changeNamed_141 rfl (lv_at hl 5 rfl) ?_
      refine lv_iconst (v := 2) hx hb d_In_changeNamed_142 (by decide) ?_
      refine lv_iadd hx hb d_In_changeNamed_143 ?_
      refine lv_topi (fun x_8 ex_8 => ?_)
      obtain rfl : x_8 = nI (k + 2) := by rw [ex_8]; first | done | (exact nI_add _ _)
      have hPc := hP.sub (ws' := [(sk, .inr (9, [.ref b_y, sk_from, .ref fdA, .ref fcA, .ref dpA, sk_hashes, sk_byHash, sk_leansOn, sk_leantBy, sk_changes, sk_lines, .int (nI P)])), (b_y, .inl (cB, 290000, .inl f))]) [5, 6] rfl
      have hDc := hD.sub (ws' := [(sk, .inr (9, [.ref b_y, sk_from, .ref fdA, .ref fcA, .ref dpA, sk_hashes, sk_byHash, sk_leansOn, sk_leantBy, sk_changes, sk_lines, .int (nI P)])), (b_y, .inl (cB, 290000, .inl f))]) [5, 6] (by decide) rfl
      have hFc := va_free (wc := [(sk, .inr (9, [.ref b_y, sk_from, .ref fdA, .ref fcA, .ref dpA, sk_hashes, sk_byHash, sk_leansOn, sk_leantBy, sk_changes, sk_lines, .int (nI P)])), (b_y, .inl (cB, 290000, .inl f))]) hD hS hA [5, 6] rfl
      refine va_calli (va_runV (As := [.int (nI (k + 2))]) (rest := [.int (nI (FC (DP (tw f k))))]) ⟨hx, hb, hml, hown, hts⟩ (m_St_two l dC dI cI cB cL cZ cR sk b_y (sk_from) (.ref fdA) (.ref fcA) (.ref dpA) (sk_hashes) (sk_byHash) (sk_leansOn) (sk_leantBy) (sk_changes) (sk_lines) (.int (nI P)) f (k + 2) H.size (by omega)) (cwV 1 hts (xg_V gw_815 gw_771 gw_772 gw_3 gw_773) rfl rfl rfl (by decide +kernel) ⟨Nat.le_of_ble_eq_true rfl, Nat.le_of_ble_eq_true rfl⟩) ⟨xw_blind, va_recv hK hPc (ci := 9) (q0 := 0) rfl rfl, fun U hU hW => ⟨rfl, by rw [hU], by rw [hU]; exact hPc, va_K.moved hW.alike hK, hDc.weaken (fun _ _ _ _ => trivial)⟩⟩ rfl rfl hl.1 rfl (lv_room (Nat.le_of_ble_eq_true rfl)) d_In_changeNamed_144 ⟨Nat.le_of_ble_eq_true rfl, Nat.le_of_ble_eq_true rfl⟩) hS (fun q _ h => hFc q h) hFc (fun r9 u t H1 locs ht hvm hw hB hz1 hk1 hS => ?_)
      obtain ⟨hP1, hK1, hD1⟩ := hB
      rw [ht] at hP1
      obtain ⟨hP, hD⟩ := va_join (wr := [(h, .inr (3, [.ref sk, it_changes, it_lines, it_sha, it_form, .ref naA, it_linesOfFile, it_nextFile, it_nextLine])), (fdA, .inl (cI, 502, .inl fdf)), (dpA, .inl (cI, 8400, .inl dpf)), (fcA, .inl (cI, 502, .inl fcf)), (naA, .inl (cI, 2048, .inl (upd nf (tw f k) 1)))]) (w1 := [(sk, .inr (9, [.ref b_y, sk_from, .ref fdA, .ref fcA, .ref dpA, sk_hashes, sk_byHash, sk_leansOn, sk_leantBy, sk_changes, sk_lines, .int (nI P)])), (b_y, .inl (cB, 290000, .inl f))]) hP hD [5, 6] [0, 1, 2, 3, 4] rfl rfl (by decide) (by decide) hk1 hFc hP1 hD1
      generalize H1 = H at hP hS ⊢
      have hP : va_P (dC, dI) classes [(h, .inr (3, [.ref sk, it_changes, it_lines, it_sha, it_form, .ref naA, it_linesOfFile, it_nextFile, it_nextLine])), (fdA, .inl (cI, 502, .inl fdf)), (dpA, .inl (cI, 8400, .inl dpf)), (fcA, .inl (cI, 502, .inl fcf)), (naA, .inl (cI, 2048, .inl (upd nf (tw f k) 1))), (sk, .inr (9, [.ref b_y, sk_from, .ref fdA, .ref fcA, .ref dpA, sk_hashes, sk_byHash, sk_leansOn, sk_leantBy, sk_changes, sk_lines, .int (nI P)])), (b_y, .inl (cB, 290000, .inl f))] H := hP
      have hD : va_D A [(h, .inr (3, [.ref sk, it_changes, it_lines, it_sha, it_form, .ref naA, it_linesOfFile, it_nextFile, it_nextLine])), (fdA, .inl (cI, 502, .inl fdf)), (dpA, .inl (cI, 8400, .inl dpf)), (fcA, .inl (cI, 502, .inl fcf)), (naA, .inl (cI, 2048, .inl (upd nf (tw f k) 1))), (sk, .inr (9, [.ref b_y, sk_from, .ref fdA, .ref fcA, .ref dpA, sk_hashes, sk_byHash, sk_leansOn, sk_leantBy, sk_changes, sk_lines, .int (nI P)])), (b_y, .inl (cB, 290000, .inl f))] := hD
      subst hw
      have htw9 := tw_lt f (k + 2)
      refine lv_iadd hx hb d_In_changeNamed_147 ?_
      refine lv_topi (fun x_9 ex_9 => ?_)
      obtain rfl : x_9 = nI ((FC (DP (tw f k))) + (tw f (k + 2))) := by rw [ex_9]; first | done | (exact nI_add _ _)
      refine lv_istore (lv' := [(6, .int (nI ((FC (DP (tw f k))) + (tw f (k + 2))))), (5, .int (nI (DP (tw f k)))), (4, .int (nI D0)), (3, .int (nI (tw f k))), (0, .ref h), (1, .int (nI cc)), (2, .int (nI k))]) hx hb d_In_changeNamed_148 hl (by decide) rfl (fun ls hl => ?_)
      refine lv_iload hx hb d_In_changeNamed_150 (lv_at hl 0 rfl) ?_
      refine lv_aload_n hx hb d_In_changeNamed_152 rfl (lv_at hl 4 rfl) ?_
      refine va_get (D := (dC, dI)) (ci := 3) (v := .ref sk) (C := R_In) (T := F_In) (N := 9) hx hb hts i_In hown hK hP 0 rfl rfl 0 (by decide) (hts _ gw_284) (fun _ h9 => h9) rfl d_In_changeNamed_153 ?_
      refine va_get (D := (dC, dI)) (ci := 9) (v := .ref fcA) (C := R_St) (T := F_St) (N := 12) hx hb hts i_St hown hK hP 5 rfl rfl 3 (by decide) (hts _ gw_200) (fun _ h9 => h9) rfl d_In_changeNamed_156 ?_
      refine lv_iload hx hb d_In_changeNamed_159 (lv_at hl 1 rfl) ?_
      refine lv_iconst (v := 1) hx hb d_In_changeNamed_161 (by decide) ?_
      refine lv_iadd hx hb d_In_changeNamed_162 ?_
      refine lv_topi (fun x_10 ex_10 => ?_)
      obtain rfl : x_10 = nI ((DP (tw f k)) + 1) := by rw [ex_10]; first | done | (exact nI_add _ _)
      refine va_iald hx hb hK hP 3 0 rfl rfl (vp_in_nI (by omega) (by omega)) d_In_changeNamed_163 ?_
      rw [show (nI ((DP (tw f k)) + 1)).toNatClampNeg = ((DP (tw f k)) + 1) from nI_clamp (by omega)]
      refine lv_topi (fun x_11 ex_11 => ?_)
      obtain rfl : x_11 = nI (FC (DP (tw f k) + 1)) := by rw [ex_11]; first | done | (exact (gC _ (by omega)).1)
      refine lv_icmp_ge (tgt := 172) hx hb d_In_changeNamed_164 (by decide) (fun c_164 => ?_) (fun c_164 => ?_)
      · have n_164 : (FC (DP (tw f k) + 1)) ≤ ((FC (DP (tw f k))) + (tw f (k + 2))) := (nI_leI (a := (FC (DP (tw f k) + 1))) (b := ((FC (DP (tw f k))) + (tw f (k + 2)))) (by omega) (by omega)).mp c_164
        refine lv_iconst (v := (-1)) hx hb d_In_changeNamed_172 (by decide) ?_
        have hP := hP.sub (ws' := [(h, .inr (3, [.ref sk, it_changes, it_lines, it_sha, it_form, .ref naA, it_linesOfFile, it_nextFile, it_nextLine])), (sk, .inr (9, [.ref b_y, sk_from, .ref fdA, .ref fcA, .ref dpA, sk_hashes, sk_byHash, sk_leansOn, sk_leantBy, sk_changes, sk_lines, .int (nI P)])), (b_y, .inl (cB, 290000, .inl f)), (fdA, .inl (cI, 502, .inl fdf)), (dpA, .inl (cI, 8400, .inl dpf)), (fcA, .inl (cI, 502, .inl fcf)), (naA, .inl (cI, 2048, .inl (upd nf (tw f k) 1)))]) [0, 5, 6, 1, 2, 3, 4] rfl
        have hD := hD.sub (ws' := [(h, .inr (3, [.ref sk, it_changes, it_lines, it_sha, it_form, .ref naA, it_linesOfFile, it_nextFile, it_nextLine])), (sk, .inr (9, [.ref b_y, sk_from, .ref fdA, .ref fcA, .ref dpA, sk_hashes, sk_byHash, sk_leansOn, sk_leantBy, sk_changes, sk_lines, .int (nI P)])), (b_y, .inl (cB, 290000, .inl f)), (fdA, .inl (cI, 502, .inl fdf)), (dpA, .inl (cI, 8400, .inl dpf)), (fcA, .inl (cI, 502, .inl fcf)), (naA, .inl (cI, 2048, .inl (upd nf (tw f k) 1)))]) [0, 5, 6, 1, 2, 3, 4] (by decide) rfl
        exact W.iret (v := (-1)) hx hb hr (fun t ht hW => ⟨⟨_, (0, upd nf (tw f k) 1), rfl, ⟨Or.inr ⟨rfl, fun q z => z.elim (fun z => n_29 z.1) (fun z => absurd z.2.2 (by have := z.2.1; omega))⟩, (if_pos n_94).symm⟩, by rw [ht]; exact hP, va_K.moved hW.alike hK, hD⟩, hS.F ht⟩) hS.2.2 d_In_changeNamed_173
      · have n_164 : ((FC (DP (tw f k))) + (tw f (k + 2))) < (FC (DP (tw f k) + 1)) := Nat.lt_of_not_le (fun z => c_164 ((nI_leI (a := (FC (DP (tw f k) + 1))) (b := ((FC (DP (tw f k))) + (tw f (k + 2)))) (by omega) (by omega)).mpr z))
        refine lv_iload hx hb d_In_changeNamed_167 (lv_at hl 0 rfl) ?_
        refine lv_goto (tgt := 173) hx hb d_In_changeNamed_169 (by decide) ?_
        have hP := hP.sub (ws' := [(h, .inr (3, [.ref sk, it_changes, it_lines, it_sha, it_form, .ref naA, it_linesOfFile, it_nextFile, it_nextLine])), (sk, .inr (9, [.ref b_y, sk_from, .ref fdA, .ref fcA, .ref dpA, sk_hashes, sk_byHash, sk_leansOn, sk_leantBy, sk_changes, sk_lines, .int (nI P)])), (b_y, .inl (cB, 290000, .inl f)), (fdA, .inl (cI, 502, .inl fdf)), (dpA, .inl (cI, 8400, .inl dpf)), (fcA, .inl (cI, 502, .inl fcf)), (naA, .inl (cI, 2048, .inl (upd nf (tw f k) 1)))]) [0, 5, 6, 1, 2, 3, 4] rfl
        have hD := hD.sub (ws' := [(h, .inr (3, [.ref sk, it_changes, it_lines, it_sha, it_form, .ref naA, it_linesOfFile, it_nextFile, it_nextLine])), (sk, .inr (9, [.ref b_y, sk_from, .ref fdA, .ref fcA, .ref dpA, sk_hashes, sk_byHash, sk_leansOn, sk_leantBy, sk_changes, sk_lines, .int (nI P)])), (b_y, .inl (cB, 290000, .inl f)), (fdA, .inl (cI, 502, .inl fdf)), (dpA, .inl (cI, 8400, .inl dpf)), (fcA, .inl (cI, 502, .inl fcf)), (naA, .inl (cI, 2048, .inl (upd nf (tw f k) 1)))]) [0, 5, 6, 1, 2, 3, 4] (by decide) rfl
        exact W.iret (v := nI ((FC (DP (tw f k))) + (tw f (k + 2)))) hx hb hr (fun t ht hW => ⟨⟨_, (((FC (DP (tw f k))) + (tw f (k + 2))), upd nf (tw f k) 1), rfl, ⟨Or.inl ⟨Or.inr ⟨n_94, rfl, n_164⟩, rfl⟩, (if_pos n_94).symm⟩, by rw [ht]; exact hP, va_K.moved hW.alike hK, hD⟩, hS.F ht⟩) hS.2.2 d_In_changeNamed_173
  · have n_29 : (tw f k) = 65535 := (nI_eq (a := (tw f k)) (b := 65535) (by omega) (by omega)).mp c_29
    have g1 := (gC P (Nat.le_refl _)).2
    refine lv_aload_n hx hb d_In_changeNamed_32 rfl (lv_at hl 2 rfl) ?_
    refine va_get (D := (dC, dI)) (ci := 3) (v := .ref sk) (C := R_In) (T := F_In) (N := 9) hx hb hts i_In hown hK hP 0 rfl rfl 0 (by decide) (hts _ gw_284) (fun _ h9 => h9) rfl d_In_changeNamed_33 ?_
    refine va_get (D := (dC, dI)) (ci := 9) (v := .ref fcA) (C := R_St) (T := F_St) (N := 12) hx hb hts i_St hown hK hP 5 rfl rfl 3 (by decide) (hts _ gw_200) (fun _ h9 => h9) rfl d_In_changeNamed_36 ?_
    refine lv_aload_n hx hb d_In_changeNamed_39 rfl (lv_at hl 2 rfl) ?_
    refine va_get (D := (dC, dI)) (ci := 3) (v := .ref sk) (C := R_In) (T := F_In) (N := 9) hx hb hts i_In hown hK hP 0 rfl rfl 0 (by decide) (hts _ gw_284) (fun _ h9 => h9) rfl d_In_changeNamed_40 ?_
    refine va_get (D := (dC, dI)) (ci := 9) (v := .int (nI P)) (C := R_St) (T := F_St) (N := 12) hx hb hts i_St hown hK hP 5 rfl rfl 11 (by decide) (hts _ gw_238) (fun _ h9 => h9) rfl d_In_changeNamed_43 ?_
    refine va_iald hx hb hK hP 3 0 rfl rfl (vp_in_nI (by omega) (by omega)) d_In_changeNamed_46 ?_
    rw [show (nI P).toNatClampNeg = P from nI_clamp (by omega)]
    refine lv_topi (fun x_12 ex_12 => ?_)
    obtain rfl : x_12 = nI (FC P) := by rw [ex_12]; first | done | (exact (gC P (Nat.le_refl _)).1)
    refine lv_aload_n hx hb d_In_changeNamed_47 rfl (lv_at hl 2 rfl) ?_
    refine va_get (D := (dC, dI)) (ci := 3) (v := .ref sk) (C := R_In) (T := F_In) (N := 9) hx hb hts i_In hown hK hP 0 rfl rfl 0 (by decide) (hts _ gw_284) (fun _ h9 => h9) rfl d_In_changeNamed_48 ?_
    refine lv_iload_n hx hb d_In_changeNamed_51 rfl (lv_at hl 4 rfl) ?_
    refine lv_iconst (v := 2) hx hb d_In_changeNamed_52 (by decide) ?_
    refine lv_iadd hx hb d_In_changeNamed_53 ?_
    refine lv_topi (fun x_13 ex_13 => ?_)
    obtain rfl : x_13 = nI (k + 2) := by rw [ex_13]; first | done | (exact nI_add _ _)
    have hPc := hP.sub (ws' := [(sk, .inr (9, [.ref b_y, sk_from, .ref fdA, .ref fcA, .ref dpA, sk_hashes, sk_byHash, sk_leansOn, sk_leantBy, sk_changes, sk_lines, .int (nI P)])), (b_y, .inl (cB, 290000, .inl f))]) [5, 6] rfl
    have hDc := hD.sub (ws' := [(sk, .inr (9, [.ref b_y, sk_from, .ref fdA, .ref fcA, .ref dpA, sk_hashes, sk_byHash, sk_leansOn, sk_leantBy, sk_changes, sk_lines, .int (nI P)])), (b_y, .inl (cB, 290000, .inl f))]) [5, 6] (by decide) rfl
    have hFc := va_free (wc := [(sk, .inr (9, [.ref b_y, sk_from, .ref fdA, .ref fcA, .ref dpA, sk_hashes, sk_byHash, sk_leansOn, sk_leantBy, sk_changes, sk_lines, .int (nI P)])), (b_y, .inl (cB, 290000, .inl f))]) hD hS hA [5, 6] rfl
    refine va_calli (va_runV (As := [.int (nI (k + 2))]) (rest := [.int (nI (FC P))]) ⟨hx, hb, hml, hown, hts⟩ (m_St_two l dC dI cI cB cL cZ cR sk b_y (sk_from) (.ref fdA) (.ref fcA) (.ref dpA) (sk_hashes) (sk_byHash) (sk_leansOn) (sk_leantBy) (sk_changes) (sk_lines) (.int (nI P)) f (k + 2) H.size (by omega)) (cwV 1 hts (xg_V gw_815 gw_771 gw_772 gw_3 gw_773) rfl rfl rfl (by decide +kernel) ⟨Nat.le_of_ble_eq_true rfl, Nat.le_of_ble_eq_true rfl⟩) ⟨xw_blind, va_recv hK hPc (ci := 9) (q0 := 0) rfl rfl, fun U hU hW => ⟨rfl, by rw [hU], by rw [hU]; exact hPc, va_K.moved hW.alike hK, hDc.weaken (fun _ _ _ _ => trivial)⟩⟩ rfl rfl hl.1 rfl (lv_room (Nat.le_of_ble_eq_true rfl)) d_In_changeNamed_54 ⟨Nat.le_of_ble_eq_true rfl, Nat.le_of_ble_eq_true rfl⟩) hS (fun q _ h => hFc q h) hFc (fun r9 u t H1 locs ht hvm hw hB hz1 hk1 hS => ?_)
    obtain ⟨hP1, hK1, hD1⟩ := hB
    rw [ht] at hP1
    obtain ⟨hP, hD⟩ := va_join (wr := [(h, .inr (3, [.ref sk, it_changes, it_lines, it_sha, it_form, .ref naA, it_linesOfFile, it_nextFile, it_nextLine])), (fdA, .inl (cI, 502, .inl fdf)), (dpA, .inl (cI, 8400, .inl dpf)), (fcA, .inl (cI, 502, .inl fcf)), (naA, .inl (cI, 2048, .inl nf))]) (w1 := [(sk, .inr (9, [.ref b_y, sk_from, .ref fdA, .ref fcA, .ref dpA, sk_hashes, sk_byHash, sk_leansOn, sk_leantBy, sk_changes, sk_lines, .int (nI P)])), (b_y, .inl (cB, 290000, .inl f))]) hP hD [5, 6] [0, 1, 2, 3, 4] rfl rfl (by decide) (by decide) hk1 hFc hP1 hD1
    generalize H1 = H at hP hS ⊢
    have hP : va_P (dC, dI) classes [(h, .inr (3, [.ref sk, it_changes, it_lines, it_sha, it_form, .ref naA, it_linesOfFile, it_nextFile, it_nextLine])), (fdA, .inl (cI, 502, .inl fdf)), (dpA, .inl (cI, 8400, .inl dpf)), (fcA, .inl (cI, 502, .inl fcf)), (naA, .inl (cI, 2048, .inl nf)), (sk, .inr (9, [.ref b_y, sk_from, .ref fdA, .ref fcA, .ref dpA, sk_hashes, sk_byHash, sk_leansOn, sk_leantBy, sk_changes, sk_lines, .int (nI P)])), (b_y, .inl (cB, 290000, .inl f))] H := hP
    have hD : va_D A [(h, .inr (3, [.ref sk, it_changes, it_lines, it_sha, it_form, .ref naA, it_linesOfFile, it_nextFile, it_nextLine])), (fdA, .inl (cI, 502, .inl fdf)), (dpA, .inl (cI, 8400, .inl dpf)), (fcA, .inl (cI, 502, .inl fcf)), (naA, .inl (cI, 2048, .inl nf)), (sk, .inr (9, [.ref b_y, sk_from, .ref fdA, .ref fcA, .ref dpA, sk_hashes, sk_byHash, sk_leansOn, sk_leantBy, sk_changes, sk_lines, .int (nI P)])), (b_y, .inl (cB, 290000, .inl f))] := hD
    subst hw
    have htw9 := tw_lt f (k + 2)
    refine lv_iadd hx hb d_In_changeNamed_57 ?_
    refine lv_topi (fun x_14 ex_14 => ?_)
    obtain rfl : x_14 = nI (FC P + (tw f (k + 2))) := by rw [ex_14]; first | done | (exact nI_add _ _)
    refine lv_istore (lv' := [(5, .int (nI (FC P + (tw f (k + 2))))), (4, .int (nI D0)), (3, .int (nI (tw f k))), (0, .ref h), (1, .int (nI cc)), (2, .int (nI k))]) hx hb d_In_changeNamed_58 hl (by decide) rfl (fun ls hl => ?_)
    refine lv_iload hx hb d_In_changeNamed_60 (lv_at hl 0 rfl) ?_
    refine lv_iload_n hx hb d_In_changeNamed_62 rfl (lv_at hl 4 rfl) ?_
    refine lv_icmp_ge (tgt := 71) hx hb d_In_changeNamed_63 (by decide) (fun c_63 => ?_) (fun c_63 => ?_)
    · have n_63 : cc ≤ (FC P + (tw f (k + 2))) := (nI_leI (a := cc) (b := (FC P + (tw f (k + 2)))) (by omega) (by omega)).mp c_63
      refine lv_iconst (v := (-1)) hx hb d_In_changeNamed_71 (by decide) ?_
      have hP := hP.sub (ws' := [(h, .inr (3, [.ref sk, it_changes, it_lines, it_sha, it_form, .ref naA, it_linesOfFile, it_nextFile, it_nextLine])), (sk, .inr (9, [.ref b_y, sk_from, .ref fdA, .ref fcA, .ref dpA, sk_hashes, sk_byHash, sk_leansOn, sk_leantBy, sk_changes, sk_lines, .int (nI P)])), (b_y, .inl (cB, 290000, .inl f)), (fdA, .inl (cI, 502, .inl fdf)), (dpA, .inl (cI, 8400, .inl dpf)), (fcA, .inl (cI, 502, .inl fcf)), (naA, .inl (cI, 2048, .inl nf))]) [0, 5, 6, 1, 2, 3, 4] rfl
      have hD := hD.sub (ws' := [(h, .inr (3, [.ref sk, it_changes, it_lines, it_sha, it_form, .ref naA, it_linesOfFile, it_nextFile, it_nextLine])), (sk, .inr (9, [.ref b_y, sk_from, .ref fdA, .ref fcA, .ref dpA, sk_hashes, sk_byHash, sk_leansOn, sk_leantBy, sk_changes, sk_lines, .int (nI P)])), (b_y, .inl (cB, 290000, .inl f)), (fdA, .inl (cI, 502, .inl fdf)), (dpA, .inl (cI, 8400, .inl dpf)), (fcA, .inl (cI, 502, .inl fcf)), (naA, .inl (cI, 2048, .inl nf))]) [0, 5, 6, 1, 2, 3, 4] (by decide) rfl
      exact W.iret (v := (-1)) hx hb hr (fun t ht hW => ⟨⟨_, (0, nf), rfl, ⟨Or.inr ⟨rfl, fun q z => z.elim (fun z => absurd z.2.2 (by have := z.2.1; omega)) (fun z => absurd z.1 (by omega))⟩, (if_neg (by omega)).symm⟩, by rw [ht]; exact hP, va_K.moved hW.alike hK, hD⟩, hS.F ht⟩) hS.2.2 d_In_changeNamed_72
    · have n_63 : (FC P + (tw f (k + 2))) < cc := Nat.lt_of_not_le (fun z => c_63 ((nI_leI (a := cc) (b := (FC P + (tw f (k + 2)))) (by omega) (by omega)).mpr z))
      refine lv_iload hx hb d_In_changeNamed_66 (lv_at hl 0 rfl) ?_
      refine lv_goto (tgt := 72) hx hb d_In_changeNamed_68 (by decide) ?_
      have hP := hP.sub (ws' := [(h, .inr (3, [.ref sk, it_changes, it_lines, it_sha, it_form, .ref naA, it_linesOfFile, it_nextFile, it_nextLine])), (sk, .inr (9, [.ref b_y, sk_from, .ref fdA, .ref fcA, .ref dpA, sk_hashes, sk_byHash, sk_leansOn, sk_leantBy, sk_changes, sk_lines, .int (nI P)])), (b_y, .inl (cB, 290000, .inl f)), (fdA, .inl (cI, 502, .inl fdf)), (dpA, .inl (cI, 8400, .inl dpf)), (fcA, .inl (cI, 502, .inl fcf)), (naA, .inl (cI, 2048, .inl nf))]) [0, 5, 6, 1, 2, 3, 4] rfl
      have hD := hD.sub (ws' := [(h, .inr (3, [.ref sk, it_changes, it_lines, it_sha, it_form, .ref naA, it_linesOfFile, it_nextFile, it_nextLine])), (sk, .inr (9, [.ref b_y, sk_from, .ref fdA, .ref fcA, .ref dpA, sk_hashes, sk_byHash, sk_leansOn, sk_leantBy, sk_changes, sk_lines, .int (nI P)])), (b_y, .inl (cB, 290000, .inl f)), (fdA, .inl (cI, 502, .inl fdf)), (dpA, .inl (cI, 8400, .inl dpf)), (fcA, .inl (cI, 502, .inl fcf)), (naA, .inl (cI, 2048, .inl nf))]) [0, 5, 6, 1, 2, 3, 4] (by decide) rfl
      exact W.iret (v := nI (FC P + (tw f (k + 2)))) hx hb hr (fun t ht hW => ⟨⟨_, ((FC P + (tw f (k + 2))), nf), rfl, ⟨Or.inl ⟨Or.inl ⟨n_29, rfl, n_63⟩, rfl⟩, (if_neg (by omega)).symm⟩, by rw [ht]; exact hP, va_K.moved hW.alike hK, hD⟩, hS.F ht⟩) hS.2.2 d_In_changeNamed_72
set_option maxHeartbeats 4000000 in
set_option maxRecDepth 100000 in
/-- the file that a ref of the candidate names -/
theorem m_In_fileNamed (l : Launch) (dC : Nat → ClassId) (dI : Nat → Nat → Nat) (cI cB cL cZ cR : ClassId) (h sk b_y fdA dpA fcA naA ch cat cfA : Nat) (it_lines it_sha it_form it_linesOfFile it_nextFile it_nextLine sk_from sk_hashes sk_byHash sk_leansOn sk_leantBy sk_lines ch_patch ch_firstLine ch_adds ch_files : Value) (f fdf dpf fcf nf ca cff : Nat → Int32) (DP FC CA CF : Nat → Nat) (P D0 nd cc k : Nat) (sz : Nat) (hk : k + 3 < 290000) (hP5 : P ≤ 500) (gE0 : fdf P = nI D0) (gE1 : fdf (P + 1) = nI (D0 + nd)) (hnd : nd ≤ 2048) (hDr : D0 + nd ≤ 8400) (gD : ∀ i, i < nd → dpf (D0 + i) = nI (DP i) ∧ DP i < P) (gC : ∀ i, i ≤ P → fcf i = nI (FC i) ∧ FC i ≤ 38000) (hcc : cc ≤ 38000) (gL : ∀ i, i < P → FC (i + 1) ≤ cc) (gA : ∀ i, i < cc → ca i = nI (CA i) ∧ CA i + 5 < 290000) (gF : ∀ i, i < cc → cff i = nI (CF i) ∧ CF i < 40000) : Met l y_In_fileNamed ws_In_fileNamed ({ frames := 2, cells := 0, slots := 0, locals := 100 }) (xw_Pc dC dI [(cI, .int), (cB, .byte), (cL, .long), (cZ, .boolean), (cR, .object "PatchStore$Repository")] [.ref h, .int (nI cc), .int (nI k)] [(h, .inr (3, [.ref sk, .ref ch, it_lines, it_sha, it_form, .ref naA, it_linesOfFile, it_nextFile, it_nextLine])), (sk, .inr (9, [.ref b_y, sk_from, .ref fdA, .ref fcA, .ref dpA, sk_hashes, sk_byHash, sk_leansOn, sk_leantBy, .ref ch, sk_lines, .int (nI P)])), (b_y, .inl (cB, 290000, .inl f)), (fdA, .inl (cI, 502, .inl fdf)), (dpA, .inl (cI, 8400, .inl dpf)), (fcA, .inl (cI, 502, .inl fcf)), (naA, .inl (cI, 2048, .inl nf)), (ch, .inr (1, [.ref cat, ch_patch, .ref cfA, ch_firstLine, ch_adds, ch_files])), (cat, .inl (cI, 38000, .inl ca)), (cfA, .inl (cI, 38000, .inl cff))] sz) (va_Qi (fun (r : Int32) (u : Nat × (Nat → Int32)) => ((fnR f DP FC CA CF P nd cc k u.1 ∧ r = nI u.1) ∨ (r = -1 ∧ ∀ q, ¬ fnR f DP FC CA CF P nd cc k q)) ∧ u.2 = nmU f nd k nf) (fun u t => xw_B dC dI [(cI, .int), (cB, .byte), (cL, .long), (cZ, .boolean), (cR, .object "PatchStore$Repository")] (va_A [(h, .inr (3, [.ref sk, .ref ch, it_lines, it_sha, it_form, .ref naA, it_linesOfFile, it_nextFile, it_nextLine])), (sk, .inr (9, [.ref b_y, sk_from, .ref fdA, .ref fcA, .ref dpA, sk_hashes, sk_byHash, sk_leansOn, sk_leantBy, .ref ch, sk_lines, .int (nI P)])), (b_y, .inl (cB, 290000, .inl f)), (fdA, .inl (cI, 502, .inl fdf)), (dpA, .inl (cI, 8400, .inl dpf)), (fcA, .inl (cI, 502, .inl fcf)), (naA, .inl (cI, 2048, .inl nf)), (ch, .inr (1, [.ref cat, ch_patch, .ref cfA, ch_firstLine, ch_adds, ch_files])), (cat, .inl (cI, 38000, .inl ca)), (cfA, .inl (cI, 38000, .inl cff))] sz) [(h, .inr (3, [.ref sk, .ref ch, it_lines, it_sha, it_form, .ref naA, it_linesOfFile, it_nextFile, it_nextLine])), (sk, .inr (9, [.ref b_y, sk_from, .ref fdA, .ref fcA, .ref dpA, sk_hashes, sk_byHash, sk_leansOn, sk_leantBy, .ref ch, sk_lines, .int (nI P)])), (b_y, .inl (cB, 290000, .inl f)), (fdA, .inl (cI, 502, .inl fdf)), (dpA, .inl (cI, 8400, .inl dpf)), (fcA, .inl (cI, 502, .inl fcf)), (naA, .inl (cI, 2048, .inl u.2)), (ch, .inr (1, [.ref cat, ch_patch, .ref cfA, ch_firstLine, ch_adds, ch_files])), (cat, .inl (cI, 38000, .inl ca)), (cfA, .inl (cI, 38000, .inl cff))] t) (va_A [(h, .inr (3, [.ref sk, .ref ch, it_lines, it_sha, it_form, .ref naA, it_linesOfFile, it_nextFile, it_nextLine])), (sk, .inr (9, [.ref b_y, sk_from, .ref fdA, .ref fcA, .ref dpA, sk_hashes, sk_byHash, sk_leansOn, sk_leantBy, .ref ch, sk_lines, .int (nI P)])), (b_y, .inl (cB, 290000, .inl f)), (fdA, .inl (cI, 502, .inl fdf)), (dpA, .inl (cI, 8400, .inl dpf)), (fcA, .inl (cI, 502, .inl fcf)), (naA, .inl (cI, 2048, .inl nf)), (ch, .inr (1, [.ref cat, ch_patch, .ref cfA, ch_firstLine, ch_adds, ch_files])), (cat, .inl (cI, 38000, .inl ca)), (cfA, .inl (cI, 38000, .inl cff))] sz)) 0 0 (va_A [(h, .inr (3, [.ref sk, .ref ch, it_lines, it_sha, it_form, .ref naA, it_linesOfFile, it_nextFile, it_nextLine])), (sk, .inr (9, [.ref b_y, sk_from, .ref fdA, .ref fcA, .ref dpA, sk_hashes, sk_byHash, sk_leansOn, sk_leantBy, .ref ch, sk_lines, .int (nI P)])), (b_y, .inl (cB, 290000, .inl f)), (fdA, .inl (cI, 502, .inl fdf)), (dpA, .inl (cI, 8400, .inl dpf)), (fcA, .inl (cI, 502, .inl fcf)), (naA, .inl (cI, 2048, .inl nf)), (ch, .inr (1, [.ref cat, ch_patch, .ref cfA, ch_firstLine, ch_adds, ch_files])), (cat, .inl (cI, 38000, .inl ca)), (cfA, .inl (cI, 38000, .inl cff))] sz) := by
  refine Met.ofW (cc := prog_4_method_12_code) (maxL := 4) (ret := (Option.some Jvm.ClassFile.FieldType.int)) (by decide) rfl ?_
  intro p e s m args below meth c s₁ B hml hv
  obtain ⟨rfl, hsz, hP, hK, hD0⟩ := hv
  have hx := B.exec
  have hb := B.bytes
  have hr := B.returns
  have hts0 := atoms_spec (ws := ws_In_fileNamed) B.pre
  have hts : ∀ w ∈ xg_1, w.before _ s = true := fun w h => hts0 w (List.mem_cons_of_mem _ h)
  have hown : s.vm.findClass "PatchStore$Intake" = some m.cls := findClass_of_methodNamed B.named
  have hlocks := B.notSynchronized
  subst hsz
  have hD := hD0.self (sz := s.heap.size)
  generalize hAe : va_A [(h, .inr (3, [.ref sk, .ref ch, it_lines, it_sha, it_form, .ref naA, it_linesOfFile, it_nextFile, it_nextLine])), (sk, .inr (9, [.ref b_y, sk_from, .ref fdA, .ref fcA, .ref dpA, sk_hashes, sk_byHash, sk_leansOn, sk_leantBy, .ref ch, sk_lines, .int (nI P)])), (b_y, .inl (cB, 290000, .inl f)), (fdA, .inl (cI, 502, .inl fdf)), (dpA, .inl (cI, 8400, .inl dpf)), (fcA, .inl (cI, 502, .inl fcf)), (naA, .inl (cI, 2048, .inl nf)), (ch, .inr (1, [.ref cat, ch_patch, .ref cfA, ch_firstLine, ch_adds, ch_files])), (cat, .inl (cI, 38000, .inl ca)), (cfA, .inl (cI, 38000, .inl cff))] s.heap.size = A at hD ⊢
  have hA : ∀ q : Nat, s.heap.size ≤ q → A q := fun q h => by rw [← hAe]; exact Or.inr h
  have hS : va_S A s.heap s.heap [] := va_S.rf
  have hl := lv_entry ([.ref h, .int (nI cc), .int (nI k)]) (n := 4) (Nat.le_of_ble_eq_true rfl)
  rw [lg_entry_eq]
  generalize (lg_sl ([.ref h, .int (nI cc), .int (nI k)]) ++ List.replicate (4 - (lg_sl ([.ref h, .int (nI cc), .int (nI k)])).length) Slot.unset).toArray = ls at hl ⊢
  have hl : lv_has ls 4 [(0, .ref h), (1, .int (nI cc)), (2, .int (nI k))] := hl
  generalize hQe : MQ _ _ _ _ _ _ _ = Q
  refine lv_aload_n hx hb d_In_fileNamed_0 rfl (lv_at hl 0 rfl) ?_
  refine lv_iload_n hx hb d_In_fileNamed_1 rfl (lv_at hl 1 rfl) ?_
  refine lv_iload_n hx hb d_In_fileNamed_2 rfl (lv_at hl 2 rfl) ?_
  have hPc := hP.sub (ws' := [(h, .inr (3, [.ref sk, .ref ch, it_lines, it_sha, it_form, .ref naA, it_linesOfFile, it_nextFile, it_nextLine])), (sk, .inr (9, [.ref b_y, sk_from, .ref fdA, .ref fcA, .ref dpA, sk_hashes, sk_byHash, sk_leansOn, sk_leantBy, .ref ch, sk_lines, .int (nI P)])), (b_y, .inl (cB, 290000, .inl f)), (fdA, .inl (cI, 502, .inl fdf)), (dpA, .inl (cI, 8400, .inl dpf)), (fcA, .inl (cI, 502, .inl fcf)), (naA, .inl (cI, 2048, .inl nf))]) [0, 1, 2, 3, 4, 5, 6] rfl
  have hDc := hD.sub (ws' := [(h, .inr (3, [.ref sk, .ref ch, it_lines, it_sha, it_form, .ref naA, it_linesOfFile, it_nextFile, it_nextLine])), (sk, .inr (9, [.ref b_y, sk_from, .ref fdA, .ref fcA, .ref dpA, sk_hashes, sk_byHash, sk_leansOn, sk_leantBy, .ref ch, sk_lines, .int (nI P)])), (b_y, .inl (cB, 290000, .inl f)), (fdA, .inl (cI, 502, .inl fdf)), (dpA, .inl (cI, 8400, .inl dpf)), (fcA, .inl (cI, 502, .inl fcf)), (naA, .inl (cI, 2048, .inl nf))]) [0, 1, 2, 3, 4, 5, 6] (by decide) rfl
  have hFc := va_free (wc := [(h, .inr (3, [.ref sk, .ref ch, it_lines, it_sha, it_form, .ref naA, it_linesOfFile, it_nextFile, it_nextLine])), (sk, .inr (9, [.ref b_y, sk_from, .ref fdA, .ref fcA, .ref dpA, sk_hashes, sk_byHash, sk_leansOn, sk_leantBy, .ref ch, sk_lines, .int (nI P)])), (b_y, .inl (cB, 290000, .inl f)), (fdA, .inl (cI, 502, .inl fdf)), (dpA, .inl (cI, 8400, .inl dpf)), (fcA, .inl (cI, 502, .inl fcf)), (naA, .inl (cI, 2048, .inl nf))]) hD hS hA [0, 1, 2, 3, 4, 5, 6] rfl
  refine va_calli (va_runV (As := [.int (nI cc), .int (nI k)]) (rest := []) ⟨hx, hb, hml, hown, hts⟩ (m_In_changeNamed l dC dI cI cB cL cZ cR h sk b_y fdA dpA fcA naA (.ref ch) (it_lines) (it_sha) (it_form) (it_linesOfFile) (it_nextFile) (it_nextLine) (sk_from) (sk_hashes) (sk_byHash) (sk_leansOn) (sk_leantBy) (.ref ch) (sk_lines) f fdf dpf fcf nf DP FC P D0 nd cc k s.heap.size (by omega) hP5 gE0 gE1 hnd hDr gD gC hcc) (cwV 2 hts (xg_V gw_884 gw_886 (xg_p 23 (q := (⟨"PatchStore$Intake", "changeNamed", "(II)I"⟩, 9)) (by decide +kernel)) gw_6 gw_887) rfl rfl rfl (by decide +kernel) ⟨Nat.le_of_ble_eq_true rfl, Nat.le_of_ble_eq_true rfl⟩) ⟨xw_blind, va_recv hK hPc (ci := 3) (q0 := 0) rfl rfl, fun U hU hW => ⟨rfl, by rw [hU], by rw [hU]; exact hPc, va_K.moved hW.alike hK, hDc.weaken (fun _ _ _ _ => trivial)⟩⟩ rfl rfl hl.1 rfl (lv_room (Nat.le_of_ble_eq_true rfl)) d_In_fileNamed_3 ⟨Nat.le_of_ble_eq_true rfl, Nat.le_of_ble_eq_true rfl⟩) hS (fun q _ h => hFc q h) hFc (fun r9 un t H1 locs ht hvm hw hB hz1 hk1 hS => ?_)
  obtain ⟨ux, un⟩ := un
  dsimp only at hw
  obtain ⟨hP1, hK1, hD1⟩ := hB
  rw [ht] at hP1
  obtain ⟨hP, hD⟩ := va_join (wr := [(ch, .inr (1, [.ref cat, ch_patch, .ref cfA, ch_firstLine, ch_adds, ch_files])), (cat, .inl (cI, 38000, .inl ca)), (cfA, .inl (cI, 38000, .inl cff))]) (w1 := [(h, .inr (3, [.ref sk, .ref ch, it_lines, it_sha, it_form, .ref naA, it_linesOfFile, it_nextFile, it_nextLine])), (sk, .inr (9, [.ref b_y, sk_from, .ref fdA, .ref fcA, .ref dpA, sk_hashes, sk_byHash, sk_leansOn, sk_leantBy, .ref ch, sk_lines, .int (nI P)])), (b_y, .inl (cB, 290000, .inl f)), (fdA, .inl (cI, 502, .inl fdf)), (dpA, .inl (cI, 8400, .inl dpf)), (fcA, .inl (cI, 502, .inl fcf)), (naA, .inl (cI, 2048, .inl un))]) hP hD [0, 1, 2, 3, 4, 5, 6] [7, 8, 9] rfl rfl (by decide) (by decide) hk1 hFc hP1 hD1
  generalize H1 = H at hP hS ⊢
  have hP : va_P (dC, dI) classes [(ch, .inr (1, [.ref cat, ch_patch, .ref cfA, ch_firstLine, ch_adds, ch_files])), (cat, .inl (cI, 38000, .inl ca)), (cfA, .inl (cI, 38000, .inl cff)), (h, .inr (3, [.ref sk, .ref ch, it_lines, it_sha, it_form, .ref naA, it_linesOfFile, it_nextFile, it_nextLine])), (sk, .inr (9, [.ref b_y, sk_from, .ref fdA, .ref fcA, .ref dpA, sk_hashes, sk_byHash, sk_leansOn, sk_leantBy, .ref ch, sk_lines, .int (nI P)])), (b_y, .inl (cB, 290000, .inl f)), (fdA, .inl (cI, 502, .inl fdf)), (dpA, .inl (cI, 8400, .inl dpf)), (fcA, .inl (cI, 502, .inl fcf)), (naA, .inl (cI, 2048, .inl un))] H := hP
  have hD : va_D A [(ch, .inr (1, [.ref cat, ch_patch, .ref cfA, ch_firstLine, ch_adds, ch_files])), (cat, .inl (cI, 38000, .inl ca)), (cfA, .inl (cI, 38000, .inl cff)), (h, .inr (3, [.ref sk, .ref ch, it_lines, it_sha, it_form, .ref naA, it_linesOfFile, it_nextFile, it_nextLine])), (sk, .inr (9, [.ref b_y, sk_from, .ref fdA, .ref fcA, .ref dpA, sk_hashes, sk_byHash, sk_leansOn, sk_leantBy, .ref ch, sk_lines, .int (nI P)])), (b_y, .inl (cB, 290000, .inl f)), (fdA, .inl (cI, 502, .inl fdf)), (dpA, .inl (cI, 8400, .inl dpf)), (fcA, .inl (cI, 502, .inl fcf)), (naA, .inl (cI, 2048, .inl un))] := hD
  rcases hw with ⟨⟨hcn, rfl⟩ | ⟨rfl, hcn⟩, rfl⟩
  · have hP : va_P (dC, dI) classes [(ch, .inr (1, [.ref cat, ch_patch, .ref cfA, ch_firstLine, ch_adds, ch_files])), (cat, .inl (cI, 38000, .inl ca)), (cfA, .inl (cI, 38000, .inl cff)), (h, .inr (3, [.ref sk, .ref ch, it_lines, it_sha, it_form, .ref naA, it_linesOfFile, it_nextFile, it_nextLine])), (sk, .inr (9, [.ref b_y, sk_from, .ref fdA, .ref fcA, .ref dpA, sk_hashes, sk_byHash, sk_leansOn, sk_leantBy, .ref ch, sk_lines, .int (nI P)])), (b_y, .inl (cB, 290000, .inl f)), (fdA, .inl (cI, 502, .inl fdf)), (dpA, .inl (cI, 8400, .inl dpf)), (fcA, .inl (cI, 502, .inl fcf)), (naA, .inl (cI, 2048, .inl (nmU f nd k nf)))] H := hP
    have hD : va_D A [(ch, .inr (1, [.ref cat, ch_patch, .ref cfA, ch_firstLine, ch_adds, ch_files])), (cat, .inl (cI, 38000, .inl ca)), (cfA, .inl (cI, 38000, .inl cff)), (h, .inr (3, [.ref sk, .ref ch, it_lines, it_sha, it_form, .ref naA, it_linesOfFile, it_nextFile, it_nextLine])), (sk, .inr (9, [.ref b_y, sk_from, .ref fdA, .ref fcA, .ref dpA, sk_hashes, sk_byHash, sk_leansOn, sk_leantBy, .ref ch, sk_lines, .int (nI P)])), (b_y, .inl (cB, 290000, .inl f)), (fdA, .inl (cI, 502, .inl fdf)), (dpA, .inl (cI, 8400, .inl dpf)), (fcA, .inl (cI, 502, .inl fcf)), (naA, .inl (cI, 2048, .inl (nmU f nd k nf)))] := hD
    have hxl := cnR.lt (fun i z => (gD i z).2) gL hcn
    obtain ⟨hca, hcb⟩ := gA ux hxl
    refine lv_istore_n (lv' := [(3, .int (nI ux)), (0, .ref h), (1, .int (nI cc)), (2, .int (nI k))]) hx hb d_In_fileNamed_6 rfl hl (by decide) rfl (fun ls hl => ?_)
    refine lv_iload_n hx hb d_In_fileNamed_7 rfl (lv_at hl 0 rfl) ?_
    refine lv_iconst (v := (-1)) hx hb d_In_fileNamed_8 (by decide) ?_
    refine lv_icmp_eq (tgt := 35) hx hb d_In_fileNamed_9 (by decide) (fun c_9 => absurd c_9 (fun z => nI_nm1 (by omega) z.symm)) (fun _ => ?_)
    refine lv_aload_n hx hb d_In_fileNamed_12 rfl (lv_at hl 1 rfl) ?_
    refine va_get (D := (dC, dI)) (ci := 3) (v := .ref sk) (C := R_In) (T := F_In) (N := 9) hx hb hts i_In hown hK hP 3 rfl rfl 0 (by decide) (hts _ gw_284) (fun _ h9 => h9) rfl d_In_fileNamed_13 ?_
    refine lv_iload_n hx hb d_In_fileNamed_16 rfl (lv_at hl 0 rfl) ?_
    have hPc := hP.sub (ws' := [(sk, .inr (9, [.ref b_y, sk_from, .ref fdA, .ref fcA, .ref dpA, sk_hashes, sk_byHash, sk_leansOn, sk_leantBy, .ref ch, sk_lines, .int (nI P)])), (b_y, .inl (cB, 290000, .inl f)), (ch, .inr (1, [.ref cat, ch_patch, .ref cfA, ch_firstLine, ch_adds, ch_files])), (cat, .inl (cI, 38000, .inl ca))]) [4, 5, 0, 1] rfl
    have hDc := hD.sub (ws' := [(sk, .inr (9, [.ref b_y, sk_from, .ref fdA, .ref fcA, .ref dpA, sk_hashes, sk_byHash, sk_leansOn, sk_leantBy, .ref ch, sk_lines, .int (nI P)])), (b_y, .inl (cB, 290000, .inl f)), (ch, .inr (1, [.ref cat, ch_patch, .ref cfA, ch_firstLine, ch_adds, ch_files])), (cat, .inl (cI, 38000, .inl ca))]) [4, 5, 0, 1] (by decide) rfl
    have hFc := va_free (wc := [(sk, .inr (9, [.ref b_y, sk_from, .ref fdA, .ref fcA, .ref dpA, sk_hashes, sk_byHash, sk_leansOn, sk_leantBy, .ref ch, sk_lines, .int (nI P)])), (b_y, .inl (cB, 290000, .inl f)), (ch, .inr (1, [.ref cat, ch_patch, .ref cfA, ch_firstLine, ch_adds, ch_files])), (cat, .inl (cI, 38000, .inl ca))]) hD hS hA [4, 5, 0, 1] rfl
    refine va_calli (va_runV (As := [.int (nI ux)]) (rest := []) ⟨hx, hb, hml, hown, hts⟩ (m_St_kind l dC dI cI cB cL cZ cR sk b_y ch cat (sk_from) (.ref fdA) (.ref fcA) (.ref dpA) (sk_hashes) (sk_byHash) (sk_leansOn) (sk_leantBy) (sk_lines) (.int (nI P)) (ch_patch) (.ref cfA) (ch_firstLine) (ch_adds) (ch_files) f ca ux (CA ux) H.size (by omega) hca (by omega)) (cwV 1 hts (xg_V gw_889 gw_890 gw_891 gw_3 gw_892) rfl rfl rfl (by decide +kernel) ⟨Nat.le_of_ble_eq_true rfl, Nat.le_of_ble_eq_true rfl⟩) ⟨xw_blind, va_recv hK hPc (ci := 9) (q0 := 0) rfl rfl, fun U hU hW => ⟨rfl, by rw [hU], by rw [hU]; exact hPc, va_K.moved hW.alike hK, hDc.weaken (fun _ _ _ _ => trivial)⟩⟩ rfl rfl hl.1 rfl (lv_room (Nat.le_of_ble_eq_true rfl)) d_In_fileNamed_17 ⟨Nat.le_of_ble_eq_true rfl, Nat.le_of_ble_eq_true rfl⟩) hS (fun q _ h => hFc q h) hFc (fun r9 u t H1 locs ht hvm hw hB hz1 hk1 hS => ?_)
    obtain ⟨hP1, hK1, hD1⟩ := hB
    rw [ht] at hP1
    obtain ⟨hP, hD⟩ := va_join (wr := [(cfA, .inl (cI, 38000, .inl cff)), (h, .inr (3, [.ref sk, .ref ch, it_lines, it_sha, it_form, .ref naA, it_linesOfFile, it_nextFile, it_nextLine])), (fdA, .inl (cI, 502, .inl fdf)), (dpA, .inl (cI, 8400, .inl dpf)), (fcA, .inl (cI, 502, .inl fcf)), (naA, .inl (cI, 2048, .inl (nmU f nd k nf)))]) (w1 := [(sk, .inr (9, [.ref b_y, sk_from, .ref fdA, .ref fcA, .ref dpA, sk_hashes, sk_byHash, sk_leansOn, sk_leantBy, .ref ch, sk_lines, .int (nI P)])), (b_y, .inl (cB, 290000, .inl f)), (ch, .inr (1, [.ref cat, ch_patch, .ref cfA, ch_firstLine, ch_adds, ch_files])), (cat, .inl (cI, 38000, .inl ca))]) hP hD [4, 5, 0, 1] [2, 3, 6, 7, 8, 9] rfl rfl (by decide) (by decide) hk1 hFc hP1 hD1
    generalize H1 = H at hP hS ⊢
    have hP : va_P (dC, dI) classes [(cfA, .inl (cI, 38000, .inl cff)), (h, .inr (3, [.ref sk, .ref ch, it_lines, it_sha, it_form, .ref naA, it_linesOfFile, it_nextFile, it_nextLine])), (fdA, .inl (cI, 502, .inl fdf)), (dpA, .inl (cI, 8400, .inl dpf)), (fcA, .inl (cI, 502, .inl fcf)), (naA, .inl (cI, 2048, .inl (nmU f nd k nf))), (sk, .inr (9, [.ref b_y, sk_from, .ref fdA, .ref fcA, .ref dpA, sk_hashes, sk_byHash, sk_leansOn, sk_leantBy, .ref ch, sk_lines, .int (nI P)])), (b_y, .inl (cB, 290000, .inl f)), (ch, .inr (1, [.ref cat, ch_patch, .ref cfA, ch_firstLine, ch_adds, ch_files])), (cat, .inl (cI, 38000, .inl ca))] H := hP
    have hD : va_D A [(cfA, .inl (cI, 38000, .inl cff)), (h, .inr (3, [.ref sk, .ref ch, it_lines, it_sha, it_form, .ref naA, it_linesOfFile, it_nextFile, it_nextLine])), (fdA, .inl (cI, 502, .inl fdf)), (dpA, .inl (cI, 8400, .inl dpf)), (fcA, .inl (cI, 502, .inl fcf)), (naA, .inl (cI, 2048, .inl (nmU f nd k nf))), (sk, .inr (9, [.ref b_y, sk_from, .ref fdA, .ref fcA, .ref dpA, sk_hashes, sk_byHash, sk_leansOn, sk_leantBy, .ref ch, sk_lines, .int (nI P)])), (b_y, .inl (cB, 290000, .inl f)), (ch, .inr (1, [.ref cat, ch_patch, .ref cfA, ch_firstLine, ch_adds, ch_files])), (cat, .inl (cI, 38000, .inl ca))] := hD
    subst hw
    refine lv_if_ne (tgt := 35) hx hb d_In_fileNamed_20 (by decide) (fun c_20 => ?_) (fun c_20 => ?_)
    · refine lv_iconst (v := (-1)) hx hb d_In_fileNamed_35 (by decide) ?_
      have hP := hP.sub (ws' := [(h, .inr (3, [.ref sk, .ref ch, it_lines, it_sha, it_form, .ref naA, it_linesOfFile, it_nextFile, it_nextLine])), (sk, .inr (9, [.ref b_y, sk_from, .ref fdA, .ref fcA, .ref dpA, sk_hashes, sk_byHash, sk_leansOn, sk_leantBy, .ref ch, sk_lines, .int (nI P)])), (b_y, .inl (cB, 290000, .inl f)), (fdA, .inl (cI, 502, .inl fdf)), (dpA, .inl (cI, 8400, .inl dpf)), (fcA, .inl (cI, 502, .inl fcf)), (naA, .inl (cI, 2048, .inl (nmU f nd k nf))), (ch, .inr (1, [.ref cat, ch_patch, .ref cfA, ch_firstLine, ch_adds, ch_files])), (cat, .inl (cI, 38000, .inl ca)), (cfA, .inl (cI, 38000, .inl cff))]) [1, 6, 7, 2, 3, 4, 5, 8, 9, 0] rfl
      have hD := hD.sub (ws' := [(h, .inr (3, [.ref sk, .ref ch, it_lines, it_sha, it_form, .ref naA, it_linesOfFile, it_nextFile, it_nextLine])), (sk, .inr (9, [.ref b_y, sk_from, .ref fdA, .ref fcA, .ref dpA, sk_hashes, sk_byHash, sk_leansOn, sk_leantBy, .ref ch, sk_lines, .int (nI P)])), (b_y, .inl (cB, 290000, .inl f)), (fdA, .inl (cI, 502, .inl fdf)), (dpA, .inl (cI, 8400, .inl dpf)), (fcA, .inl (cI, 502, .inl fcf)), (naA, .inl (cI, 2048, .inl (nmU f nd k nf))), (ch, .inr (1, [.ref cat, ch_patch, .ref cfA, ch_firstLine, ch_adds, ch_files])), (cat, .inl (cI, 38000, .inl ca)), (cfA, .inl (cI, 38000, .inl cff))]) [1, 6, 7, 2, 3, 4, 5, 8, 9, 0] (by decide) rfl
      rw [← hQe]
      exact W.iret (v := (-1)) hx hb hr (fun t ht hW => ⟨⟨_, (0, nmU f nd k nf), rfl, ⟨Or.inr ⟨rfl, fun q ⟨x, z1, z2, _⟩ => c_20 (cnR.uniq hnd z1 hcn ▸ z2)⟩, rfl⟩, by rw [ht]; exact hP, va_K.moved hW.alike hK, hD⟩, hS.F ht⟩) hS.2.2 d_In_fileNamed_36
    · refine lv_aload_n hx hb d_In_fileNamed_23 rfl (lv_at hl 1 rfl) ?_
      refine va_get (D := (dC, dI)) (ci := 3) (v := .ref ch) (C := R_In) (T := F_In) (N := 9) hx hb hts i_In hown hK hP 1 rfl rfl 1 (by decide) (hts _ gw_285) (fun _ h9 => h9) rfl d_In_fileNamed_24 ?_
      refine va_get (D := (dC, dI)) (ci := 1) (v := .ref cfA) (C := R_Ch) (T := F_Ch) (N := 6) hx hb hts i_Ch hown hK hP 8 rfl rfl 2 (by decide) (hts _ gw_102) (fun _ h9 => h9) rfl d_In_fileNamed_27 ?_
      refine lv_iload_n hx hb d_In_fileNamed_30 rfl (lv_at hl 0 rfl) ?_
      refine va_iald hx hb hK hP 0 0 rfl rfl (vp_in_nI (by omega) (by omega)) d_In_fileNamed_31 ?_
      rw [show (nI ux).toNatClampNeg = ux from nI_clamp (by omega)]
      refine lv_topi (fun x_1 ex_1 => ?_)
      obtain rfl : x_1 = nI (CF ux) := by rw [ex_1]; first | done | (exact (gF ux hxl).1)
      refine lv_goto (tgt := 36) hx hb d_In_fileNamed_32 (by decide) ?_
      have hP := hP.sub (ws' := [(h, .inr (3, [.ref sk, .ref ch, it_lines, it_sha, it_form, .ref naA, it_linesOfFile, it_nextFile, it_nextLine])), (sk, .inr (9, [.ref b_y, sk_from, .ref fdA, .ref fcA, .ref dpA, sk_hashes, sk_byHash, sk_leansOn, sk_leantBy, .ref ch, sk_lines, .int (nI P)])), (b_y, .inl (cB, 290000, .inl f)), (fdA, .inl (cI, 502, .inl fdf)), (dpA, .inl (cI, 8400, .inl dpf)), (fcA, .inl (cI, 502, .inl fcf)), (naA, .inl (cI, 2048, .inl (nmU f nd k nf))), (ch, .inr (1, [.ref cat, ch_patch, .ref cfA, ch_firstLine, ch_adds, ch_files])), (cat, .inl (cI, 38000, .inl ca)), (cfA, .inl (cI, 38000, .inl cff))]) [1, 6, 7, 2, 3, 4, 5, 8, 9, 0] rfl
      have hD := hD.sub (ws' := [(h, .inr (3, [.ref sk, .ref ch, it_lines, it_sha, it_form, .ref naA, it_linesOfFile, it_nextFile, it_nextLine])), (sk, .inr (9, [.ref b_y, sk_from, .ref fdA, .ref fcA, .ref dpA, sk_hashes, sk_byHash, sk_leansOn, sk_leantBy, .ref ch, sk_lines, .int (nI P)])), (b_y, .inl (cB, 290000, .inl f)), (fdA, .inl (cI, 502, .inl fdf)), (dpA, .inl (cI, 8400, .inl dpf)), (fcA, .inl (cI, 502, .inl fcf)), (naA, .inl (cI, 2048, .inl (nmU f nd k nf))), (ch, .inr (1, [.ref cat, ch_patch, .ref cfA, ch_firstLine, ch_adds, ch_files])), (cat, .inl (cI, 38000, .inl ca)), (cfA, .inl (cI, 38000, .inl cff))]) [1, 6, 7, 2, 3, 4, 5, 8, 9, 0] (by decide) rfl
      rw [← hQe]
      exact W.iret (v := nI (CF ux)) hx hb hr (fun t ht hW => ⟨⟨_, ((CF ux), nmU f nd k nf), rfl, ⟨Or.inl ⟨⟨ux, hcn, c_20, rfl⟩, rfl⟩, rfl⟩, by rw [ht]; exact hP, va_K.moved hW.alike hK, hD⟩, hS.F ht⟩) hS.2.2 d_In_fileNamed_36
  · have hP : va_P (dC, dI) classes [(ch, .inr (1, [.ref cat, ch_patch, .ref cfA, ch_firstLine, ch_adds, ch_files])), (cat, .inl (cI, 38000, .inl ca)), (cfA, .inl (cI, 38000, .inl cff)), (h, .inr (3, [.ref sk, .ref ch, it_lines, it_sha, it_form, .ref naA, it_linesOfFile, it_nextFile, it_nextLine])), (sk, .inr (9, [.ref b_y, sk_from, .ref fdA, .ref fcA, .ref dpA, sk_hashes, sk_byHash, sk_leansOn, sk_leantBy, .ref ch, sk_lines, .int (nI P)])), (b_y, .inl (cB, 290000, .inl f)), (fdA, .inl (cI, 502, .inl fdf)), (dpA, .inl (cI, 8400, .inl dpf)), (fcA, .inl (cI, 502, .inl fcf)), (naA, .inl (cI, 2048, .inl (nmU f nd k nf)))] H := hP
    have hD : va_D A [(ch, .inr (1, [.ref cat, ch_patch, .ref cfA, ch_firstLine, ch_adds, ch_files])), (cat, .inl (cI, 38000, .inl ca)), (cfA, .inl (cI, 38000, .inl cff)), (h, .inr (3, [.ref sk, .ref ch, it_lines, it_sha, it_form, .ref naA, it_linesOfFile, it_nextFile, it_nextLine])), (sk, .inr (9, [.ref b_y, sk_from, .ref fdA, .ref fcA, .ref dpA, sk_hashes, sk_byHash, sk_leansOn, sk_leantBy, .ref ch, sk_lines, .int (nI P)])), (b_y, .inl (cB, 290000, .inl f)), (fdA, .inl (cI, 502, .inl fdf)), (dpA, .inl (cI, 8400, .inl dpf)), (fcA, .inl (cI, 502, .inl fcf)), (naA, .inl (cI, 2048, .inl (nmU f nd k nf)))] := hD
    refine lv_istore_n (lv' := [(3, .int (-1)), (0, .ref h), (1, .int (nI cc)), (2, .int (nI k))]) hx hb d_In_fileNamed_6 rfl hl (by decide) rfl (fun ls hl => ?_)
    refine lv_iload_n hx hb d_In_fileNamed_7 rfl (lv_at hl 0 rfl) ?_
    refine lv_iconst (v := (-1)) hx hb d_In_fileNamed_8 (by decide) ?_
    refine lv_icmp_eq (tgt := 35) hx hb d_In_fileNamed_9 (by decide) (fun _ => ?_) (fun c_9 => absurd (by decide) c_9)
    refine lv_iconst (v := (-1)) hx hb d_In_fileNamed_35 (by decide) ?_
    have hP := hP.sub (ws' := [(h, .inr (3, [.ref sk, .ref ch, it_lines, it_sha, it_form, .ref naA, it_linesOfFile, it_nextFile, it_nextLine])), (sk, .inr (9, [.ref b_y, sk_from, .ref fdA, .ref fcA, .ref dpA, sk_hashes, sk_byHash, sk_leansOn, sk_leantBy, .ref ch, sk_lines, .int (nI P)])), (b_y, .inl (cB, 290000, .inl f)), (fdA, .inl (cI, 502, .inl fdf)), (dpA, .inl (cI, 8400, .inl dpf)), (fcA, .inl (cI, 502, .inl fcf)), (naA, .inl (cI, 2048, .inl (nmU f nd k nf))), (ch, .inr (1, [.ref cat, ch_patch, .ref cfA, ch_firstLine, ch_adds, ch_files])), (cat, .inl (cI, 38000, .inl ca)), (cfA, .inl (cI, 38000, .inl cff))]) [3, 4, 5, 6, 7, 8, 9, 0, 1, 2] rfl
    have hD := hD.sub (ws' := [(h, .inr (3, [.ref sk, .ref ch, it_lines, it_sha, it_form, .ref naA, it_linesOfFile, it_nextFile, it_nextLine])), (sk, .inr (9, [.ref b_y, sk_from, .ref fdA, .ref fcA, .ref dpA, sk_hashes, sk_byHash, sk_leansOn, sk_leantBy, .ref ch, sk_lines, .int (nI P)])), (b_y, .inl (cB, 290000, .inl f)), (fdA, .inl (cI, 502, .inl fdf)), (dpA, .inl (cI, 8400, .inl dpf)), (fcA, .inl (cI, 502, .inl fcf)), (naA, .inl (cI, 2048, .inl (nmU f nd k nf))), (ch, .inr (1, [.ref cat, ch_patch, .ref cfA, ch_firstLine, ch_adds, ch_files])), (cat, .inl (cI, 38000, .inl ca)), (cfA, .inl (cI, 38000, .inl cff))]) [3, 4, 5, 6, 7, 8, 9, 0, 1, 2] (by decide) rfl
    rw [← hQe]
    exact W.iret (v := (-1)) hx hb hr (fun t ht hW => ⟨⟨_, (0, nmU f nd k nf), rfl, ⟨Or.inr ⟨rfl, fun q ⟨x, z1, _⟩ => hcn x z1⟩, rfl⟩, by rw [ht]; exact hP, va_K.moved hW.alike hK, hD⟩, hS.F ht⟩) hS.2.2 d_In_fileNamed_36
set_option maxHeartbeats 4000000 in
set_option maxRecDepth 100000 in
/-- the file of the line that a ref of the candidate names -/
theorem m_In_fileOfLine (l : Launch) (dC : Nat → ClassId) (dI : Nat → Nat → Nat) (cI cB cL cZ cR : ClassId) (h sk b_y fdA dpA fcA naA ch cat cfA : Nat) (it_lines it_sha it_form it_linesOfFile it_nextFile it_nextLine sk_from sk_hashes sk_byHash sk_leansOn sk_leantBy sk_lines ch_patch ch_firstLine ch_adds ch_files : Value) (f fdf dpf fcf nf ca cff : Nat → Int32) (DP FC CA CF : Nat → Nat) (P D0 nd cc k : Nat) (sz : Nat) (hk : k + 5 < 290000) (hP5 : P ≤ 500) (gE0 : fdf P = nI D0) (gE1 : fdf (P + 1) = nI (D0 + nd)) (hnd : nd ≤ 2048) (hDr : D0 + nd ≤ 8400) (gD : ∀ i, i < nd → dpf (D0 + i) = nI (DP i) ∧ DP i < P) (gC : ∀ i, i ≤ P → fcf i = nI (FC i) ∧ FC i ≤ 38000) (hcc : cc ≤ 38000) (gL : ∀ i, i < P → FC (i + 1) ≤ cc) (gA : ∀ i, i < cc → ca i = nI (CA i) ∧ CA i + 5 < 290000) (gF : ∀ i, i < cc → cff i = nI (CF i) ∧ CF i < 40000) (gI : ∀ i, i < cc → f (CA i) = 2 → plEnd f (CA i + 5) < 290000 ∧ lnAt f (CA i) + 1 < 290000) : Met l y_In_fileOfLine ws_In_fileOfLine ({ frames := 2, cells := 0, slots := 0, locals := 100 }) (xw_Pc dC dI [(cI, .int), (cB, .byte), (cL, .long), (cZ, .boolean), (cR, .object "PatchStore$Repository")] [.ref h, .int (nI cc), .int (nI k)] [(h, .inr (3, [.ref sk, .ref ch, it_lines, it_sha, it_form, .ref naA, it_linesOfFile, it_nextFile, it_nextLine])), (sk, .inr (9, [.ref b_y, sk_from, .ref fdA, .ref fcA, .ref dpA, sk_hashes, sk_byHash, sk_leansOn, sk_leantBy, .ref ch, sk_lines, .int (nI P)])), (b_y, .inl (cB, 290000, .inl f)), (fdA, .inl (cI, 502, .inl fdf)), (dpA, .inl (cI, 8400, .inl dpf)), (fcA, .inl (cI, 502, .inl fcf)), (naA, .inl (cI, 2048, .inl nf)), (ch, .inr (1, [.ref cat, ch_patch, .ref cfA, ch_firstLine, ch_adds, ch_files])), (cat, .inl (cI, 38000, .inl ca)), (cfA, .inl (cI, 38000, .inl cff))] sz) (va_Qi (fun (r : Int32) (u : Nat × (Nat → Int32)) => ((flR f DP FC CA CF P nd cc k u.1 ∧ r = nI u.1) ∨ (r = -1 ∧ ∀ q, ¬ flR f DP FC CA CF P nd cc k q)) ∧ u.2 = nmU f nd k nf) (fun u t => xw_B dC dI [(cI, .int), (cB, .byte), (cL, .long), (cZ, .boolean), (cR, .object "PatchStore$Repository")] (va_A [(h, .inr (3, [.ref sk, .ref ch, it_lines, it_sha, it_form, .ref naA, it_linesOfFile, it_nextFile, it_nextLine])), (sk, .inr (9, [.ref b_y, sk_from, .ref fdA, .ref fcA, .ref dpA, sk_hashes, sk_byHash, sk_leansOn, sk_leantBy, .ref ch, sk_lines, .int (nI P)])), (b_y, .inl (cB, 290000, .inl f)), (fdA, .inl (cI, 502, .inl fdf)), (dpA, .inl (cI, 8400, .inl dpf)), (fcA, .inl (cI, 502, .inl fcf)), (naA, .inl (cI, 2048, .inl nf)), (ch, .inr (1, [.ref cat, ch_patch, .ref cfA, ch_firstLine, ch_adds, ch_files])), (cat, .inl (cI, 38000, .inl ca)), (cfA, .inl (cI, 38000, .inl cff))] sz) [(h, .inr (3, [.ref sk, .ref ch, it_lines, it_sha, it_form, .ref naA, it_linesOfFile, it_nextFile, it_nextLine])), (sk, .inr (9, [.ref b_y, sk_from, .ref fdA, .ref fcA, .ref dpA, sk_hashes, sk_byHash, sk_leansOn, sk_leantBy, .ref ch, sk_lines, .int (nI P)])), (b_y, .inl (cB, 290000, .inl f)), (fdA, .inl (cI, 502, .inl fdf)), (dpA, .inl (cI, 8400, .inl dpf)), (fcA, .inl (cI, 502, .inl fcf)), (naA, .inl (cI, 2048, .inl u.2)), (ch, .inr (1, [.ref cat, ch_patch, .ref cfA, ch_firstLine, ch_adds, ch_files])), (cat, .inl (cI, 38000, .inl ca)), (cfA, .inl (cI, 38000, .inl cff))] t) (va_A [(h, .inr (3, [.ref sk, .ref ch, it_lines, it_sha, it_form, .ref naA, it_linesOfFile, it_nextFile, it_nextLine])), (sk, .inr (9, [.ref b_y, sk_from, .ref fdA, .ref fcA, .ref dpA, sk_hashes, sk_byHash, sk_leansOn, sk_leantBy, .ref ch, sk_lines, .int (nI P)])), (b_y, .inl (cB, 290000, .inl f)), (fdA, .inl (cI, 502, .inl fdf)), (dpA, .inl (cI, 8400, .inl dpf)), (fcA, .inl (cI, 502, .inl fcf)), (naA, .inl (cI, 2048, .inl nf)), (ch, .inr (1, [.ref cat, ch_patch, .ref cfA, ch_firstLine, ch_adds, ch_files])), (cat, .inl (cI, 38000, .inl ca)), (cfA, .inl (cI, 38000, .inl cff))] sz)) 0 0 (va_A [(h, .inr (3, [.ref sk, .ref ch, it_lines, it_sha, it_form, .ref naA, it_linesOfFile, it_nextFile, it_nextLine])), (sk, .inr (9, [.ref b_y, sk_from, .ref fdA, .ref fcA, .ref dpA, sk_hashes, sk_byHash, sk_leansOn, sk_leantBy, .ref ch, sk_lines, .int (nI P)])), (b_y, .inl (cB, 290000, .inl f)), (fdA, .inl (cI, 502, .inl fdf)), (dpA, .inl (cI, 8400, .inl dpf)), (fcA, .inl (cI, 502, .inl fcf)), (naA, .inl (cI, 2048, .inl nf)), (ch, .inr (1, [.ref cat, ch_patch, .ref cfA, ch_firstLine, ch_adds, ch_files])), (cat, .inl (cI, 38000, .inl ca)), (cfA, .inl (cI, 38000, .inl cff))] sz) := by
  refine Met.ofW (cc := prog_4_method_13_code) (maxL := 4) (ret := (Option.some Jvm.ClassFile.FieldType.int)) (by decide) rfl ?_
  intro p e s m args below meth c s₁ B hml hv
  obtain ⟨rfl, hsz, hP, hK, hD0⟩ := hv
  have hx := B.exec
  have hb := B.bytes
  have hr := B.returns
  have hts0 := atoms_spec (ws := ws_In_fileOfLine) B.pre
  have hts : ∀ w ∈ xg_1, w.before _ s = true := fun w h => hts0 w (List.mem_cons_of_mem _ h)
  have hown : s.vm.findClass "PatchStore$Intake" = some m.cls := findClass_of_methodNamed B.named
  have hlocks := B.notSynchronized
  subst hsz
  have hD := hD0.self (sz := s.heap.size)
  generalize hAe : va_A [(h, .inr (3, [.ref sk, .ref ch, it_lines, it_sha, it_form, .ref naA, it_linesOfFile, it_nextFile, it_nextLine])), (sk, .inr (9, [.ref b_y, sk_from, .ref fdA, .ref fcA, .ref dpA, sk_hashes, sk_byHash, sk_leansOn, sk_leantBy, .ref ch, sk_lines, .int (nI P)])), (b_y, .inl (cB, 290000, .inl f)), (fdA, .inl (cI, 502, .inl fdf)), (dpA, .inl (cI, 8400, .inl dpf)), (fcA, .inl (cI, 502, .inl fcf)), (naA, .inl (cI, 2048, .inl nf)), (ch, .inr (1, [.ref cat, ch_patch, .ref cfA, ch_firstLine, ch_adds, ch_files])), (cat, .inl (cI, 38000, .inl ca)), (cfA, .inl (cI, 38000, .inl cff))] s.heap.size = A at hD ⊢
  have hA : ∀ q : Nat, s.heap.size ≤ q → A q := fun q h => by rw [← hAe]; exact Or.inr h
  have hS : va_S A s.heap s.heap [] := va_S.rf
  have hl := lv_entry ([.ref h, .int (nI cc), .int (nI k)]) (n := 4) (Nat.le_of_ble_eq_true rfl)
  rw [lg_entry_eq]
  generalize (lg_sl ([.ref h, .int (nI cc), .int (nI k)]) ++ List.replicate (4 - (lg_sl ([.ref h, .int (nI cc), .int (nI k)])).length) Slot.unset).toArray = ls at hl ⊢
  have hl : lv_has ls 4 [(0, .ref h), (1, .int (nI cc)), (2, .int (nI k))] := hl
  generalize hQe : MQ _ _ _ _ _ _ _ = Q
  refine lv_aload_n hx hb d_In_fileOfLine_0 rfl (lv_at hl 0 rfl) ?_
  refine lv_iload_n hx hb d_In_fileOfLine_1 rfl (lv_at hl 1 rfl) ?_
  refine lv_iload_n hx hb d_In_fileOfLine_2 rfl (lv_at hl 2 rfl) ?_
  have hPc := hP.sub (ws' := [(h, .inr (3, [.ref sk, .ref ch, it_lines, it_sha, it_form, .ref naA, it_linesOfFile, it_nextFile, it_nextLine])), (sk, .inr (9, [.ref b_y, sk_from, .ref fdA, .ref fcA, .ref dpA, sk_hashes, sk_byHash, sk_leansOn, sk_leantBy, .ref ch, sk_lines, .int (nI P)])), (b_y, .inl (cB, 290000, .inl f)), (fdA, .inl (cI, 502, .inl fdf)), (dpA, .inl (cI, 8400, .inl dpf)), (fcA, .inl (cI, 502, .inl fcf)), (naA, .inl (cI, 2048, .inl nf))]) [0, 1, 2, 3, 4, 5, 6] rfl
  have hDc := hD.sub (ws' := [(h, .inr (3, [.ref sk, .ref ch, it_lines, it_sha, it_form, .ref naA, it_linesOfFile, it_nextFile, it_nextLine])), (sk, .inr (9, [.ref b_y, sk_from, .ref fdA, .ref fcA, .ref dpA, sk_hashes, sk_byHash, sk_leansOn, sk_leantBy, .ref ch, sk_lines, .int (nI P)])), (b_y, .inl (cB, 290000, .inl f)), (fdA, .inl (cI, 502, .inl fdf)), (dpA, .inl (cI, 8400, .inl dpf)), (fcA, .inl (cI, 502, .inl fcf)), (naA, .inl (cI, 2048, .inl nf))]) [0, 1, 2, 3, 4, 5, 6] (by decide) rfl
  have hFc := va_free (wc := [(h, .inr (3, [.ref sk, .ref ch, it_lines, it_sha, it_form, .ref naA, it_linesOfFile, it_nextFile, it_nextLine])), (sk, .inr (9, [.ref b_y, sk_from, .ref fdA, .ref fcA, .ref dpA, sk_hashes, sk_byHash, sk_leansOn, sk_leantBy, .ref ch, sk_lines, .int (nI P)])), (b_y, .inl (cB, 290000, .inl f)), (fdA, .inl (cI, 502, .inl fdf)), (dpA, .inl (cI, 8400, .inl dpf)), (fcA, .inl (cI, 502, .inl fcf)), (naA, .inl (cI, 2048, .inl nf))]) hD hS hA [0, 1, 2, 3, 4, 5, 6] rfl
  refine va_calli (va_runV (As := [.int (nI cc), .int (nI k)]) (rest := []) ⟨hx, hb, hml, hown, hts⟩ (m_In_changeNamed l dC dI cI cB cL cZ cR h sk b_y fdA dpA fcA naA (.ref ch) (it_lines) (it_sha) (it_form) (it_linesOfFile) (it_nextFile) (it_nextLine) (sk_from) (sk_hashes) (sk_byHash) (sk_leansOn) (sk_leantBy) (.ref ch) (sk_lines) f fdf dpf fcf nf DP FC P D0 nd cc k s.heap.size (by omega) hP5 gE0 gE1 hnd hDr gD gC hcc) (cwV 2 hts (xg_V gw_884 gw_886 (xg_p 23 (q := (⟨"PatchStore$Intake", "changeNamed", "(II)I"⟩, 9)) (by decide +kernel)) gw_6 gw_887) rfl rfl rfl (by decide +kernel) ⟨Nat.le_of_ble_eq_true rfl, Nat.le_of_ble_eq_true rfl⟩) ⟨xw_blind, va_recv hK hPc (ci := 3) (q0 := 0) rfl rfl, fun U hU hW => ⟨rfl, by rw [hU], by rw [hU]; exact hPc, va_K.moved hW.alike hK, hDc.weaken (fun _ _ _ _ => trivial)⟩⟩ rfl rfl hl.1 rfl (lv_room (Nat.le_of_ble_eq_true rfl)) d_In_fileOfLine_3 ⟨Nat.le_of_ble_eq_true rfl, Nat.le_of_ble_eq_true rfl⟩) hS (fun q _ h => hFc q h) hFc (fun r9 un t H1 locs ht hvm hw hB hz1 hk1 hS => ?_)
  obtain ⟨ux, un⟩ := un
  dsimp only at hw
  obtain ⟨hP1, hK1, hD1⟩ := hB
  rw [ht] at hP1
  obtain ⟨hP, hD⟩ := va_join (wr := [(ch, .inr (1, [.ref cat, ch_patch, .ref cfA, ch_firstLine, ch_adds, ch_files])), (cat, .inl (cI, 38000, .inl ca)), (cfA, .inl (cI, 38000, .inl cff))]) (w1 := [(h, .inr (3, [.ref sk, .ref ch, it_lines, it_sha, it_form, .ref naA, it_linesOfFile, it_nextFile, it_nextLine])), (sk, .inr (9, [.ref b_y, sk_from, .ref fdA, .ref fcA, .ref dpA, sk_hashes, sk_byHash, sk_leansOn, sk_leantBy, .ref ch, sk_lines, .int (nI P)])), (b_y, .inl (cB, 290000, .inl f)), (fdA, .inl (cI, 502, .inl fdf)), (dpA, .inl (cI, 8400, .inl dpf)), (fcA, .inl (cI, 502, .inl fcf)), (naA, .inl (cI, 2048, .inl un))]) hP hD [0, 1, 2, 3, 4, 5, 6] [7, 8, 9] rfl rfl (by decide) (by decide) hk1 hFc hP1 hD1
  generalize H1 = H at hP hS ⊢
  have hP : va_P (dC, dI) classes [(ch, .inr (1, [.ref cat, ch_patch, .ref cfA, ch_firstLine, ch_adds, ch_files])), (cat, .inl (cI, 38000, .inl ca)), (cfA, .inl (cI, 38000, .inl cff)), (h, .inr (3, [.ref sk, .ref ch, it_lines, it_sha, it_form, .ref naA, it_linesOfFile, it_nextFile, it_nextLine])), (sk, .inr (9, [.ref b_y, sk_from, .ref fdA, .ref fcA, .ref dpA, sk_hashes, sk_byHash, sk_leansOn, sk_leantBy, .ref ch, sk_lines, .int (nI P)])), (b_y, .inl (cB, 290000, .inl f)), (fdA, .inl (cI, 502, .inl fdf)), (dpA, .inl (cI, 8400, .inl dpf)), (fcA, .inl (cI, 502, .inl fcf)), (naA, .inl (cI, 2048, .inl un))] H := hP
  have hD : va_D A [(ch, .inr (1, [.ref cat, ch_patch, .ref cfA, ch_firstLine, ch_adds, ch_files])), (cat, .inl (cI, 38000, .inl ca)), (cfA, .inl (cI, 38000, .inl cff)), (h, .inr (3, [.ref sk, .ref ch, it_lines, it_sha, it_form, .ref naA, it_linesOfFile, it_nextFile, it_nextLine])), (sk, .inr (9, [.ref b_y, sk_from, .ref fdA, .ref fcA, .ref dpA, sk_hashes, sk_byHash, sk_leansOn, sk_leantBy, .ref ch, sk_lines, .int (nI P)])), (b_y, .inl (cB, 290000, .inl f)), (fdA, .inl (cI, 502, .inl fdf)), (dpA, .inl (cI, 8400, .inl dpf)), (fcA, .inl (cI, 502, .inl fcf)), (naA, .inl (cI, 2048, .inl un))] := hD
  rcases hw with ⟨⟨hcn, rfl⟩ | ⟨rfl, hcn⟩, rfl⟩
  · have hP : va_P (dC, dI) classes [(ch, .inr (1, [.ref cat, ch_patch, .ref cfA, ch_firstLine, ch_adds, ch_files])), (cat, .inl (cI, 38000, .inl ca)), (cfA, .inl (cI, 38000, .inl cff)), (h, .inr (3, [.ref sk, .ref ch, it_lines, it_sha, it_form, .ref naA, it_linesOfFile, it_nextFile, it_nextLine])), (sk, .inr (9, [.ref b_y, sk_from, .ref fdA, .ref fcA, .ref dpA, sk_hashes, sk_byHash, sk_leansOn, sk_leantBy, .ref ch, sk_lines, .int (nI P)])), (b_y, .inl (cB, 290000, .inl f)), (fdA, .inl (cI, 502, .inl fdf)), (dpA, .inl (cI, 8400, .inl dpf)), (fcA, .inl (cI, 502, .inl fcf)), (naA, .inl (cI, 2048, .inl (nmU f nd k nf)))] H := hP
    have hD : va_D A [(ch, .inr (1, [.ref cat, ch_patch, .ref cfA, ch_firstLine, ch_adds, ch_files])), (cat, .inl (cI, 38000, .inl ca)), (cfA, .inl (cI, 38000, .inl cff)), (h, .inr (3, [.ref sk, .ref ch, it_lines, it_sha, it_form, .ref naA, it_linesOfFile, it_nextFile, it_nextLine])), (sk, .inr (9, [.ref b_y, sk_from, .ref fdA, .ref fcA, .ref dpA, sk_hashes, sk_byHash, sk_leansOn, sk_leantBy, .ref ch, sk_lines, .int (nI P)])), (b_y, .inl (cB, 290000, .inl f)), (fdA, .inl (cI, 502, .inl fdf)), (dpA, .inl (cI, 8400, .inl dpf)), (fcA, .inl (cI, 502, .inl fcf)), (naA, .inl (cI, 2048, .inl (nmU f nd k nf)))] := hD
    have hxl := cnR.lt (fun i z => (gD i z).2) gL hcn
    obtain ⟨hca, hcb⟩ := gA ux hxl
    refine lv_istore_n (lv' := [(3, .int (nI ux)), (0, .ref h), (1, .int (nI cc)), (2, .int (nI k))]) hx hb d_In_fileOfLine_6 rfl hl (by decide) rfl (fun ls hl => ?_)
    refine lv_iload_n hx hb d_In_fileOfLine_7 rfl (lv_at hl 0 rfl) ?_
    refine lv_iconst (v := (-1)) hx hb d_In_fileOfLine_8 (by decide) ?_
    refine lv_icmp_eq (tgt := 24) hx hb d_In_fileOfLine_9 (by decide) (fun c_9 => absurd c_9 (fun z => nI_nm1 (by omega) z.symm)) (fun _ => ?_)
    refine lv_aload_n hx hb d_In_fileOfLine_12 rfl (lv_at hl 1 rfl) ?_
    refine va_get (D := (dC, dI)) (ci := 3) (v := .ref sk) (C := R_In) (T := F_In) (N := 9) hx hb hts i_In hown hK hP 3 rfl rfl 0 (by decide) (hts _ gw_284) (fun _ h9 => h9) rfl d_In_fileOfLine_13 ?_
    refine lv_iload_n hx hb d_In_fileOfLine_16 rfl (lv_at hl 0 rfl) ?_
    have hPc := hP.sub (ws' := [(sk, .inr (9, [.ref b_y, sk_from, .ref fdA, .ref fcA, .ref dpA, sk_hashes, sk_byHash, sk_leansOn, sk_leantBy, .ref ch, sk_lines, .int (nI P)])), (b_y, .inl (cB, 290000, .inl f)), (ch, .inr (1, [.ref cat, ch_patch, .ref cfA, ch_firstLine, ch_adds, ch_files])), (cat, .inl (cI, 38000, .inl ca))]) [4, 5, 0, 1] rfl
    have hDc := hD.sub (ws' := [(sk, .inr (9, [.ref b_y, sk_from, .ref fdA, .ref fcA, .ref dpA, sk_hashes, sk_byHash, sk_leansOn, sk_leantBy, .ref ch, sk_lines, .int (nI P)])), (b_y, .inl (cB, 290000, .inl f)), (ch, .inr (1, [.ref cat, ch_patch, .ref cfA, ch_firstLine, ch_adds, ch_files])), (cat, .inl (cI, 38000, .inl ca))]) [4, 5, 0, 1] (by decide) rfl
    have hFc := va_free (wc := [(sk, .inr (9, [.ref b_y, sk_from, .ref fdA, .ref fcA, .ref dpA, sk_hashes, sk_byHash, sk_leansOn, sk_leantBy, .ref ch, sk_lines, .int (nI P)])), (b_y, .inl (cB, 290000, .inl f)), (ch, .inr (1, [.ref cat, ch_patch, .ref cfA, ch_firstLine, ch_adds, ch_files])), (cat, .inl (cI, 38000, .inl ca))]) hD hS hA [4, 5, 0, 1] rfl
    refine va_calli (va_runV (As := [.int (nI ux)]) (rest := []) ⟨hx, hb, hml, hown, hts⟩ (m_St_kind l dC dI cI cB cL cZ cR sk b_y ch cat (sk_from) (.ref fdA) (.ref fcA) (.ref dpA) (sk_hashes) (sk_byHash) (sk_leansOn) (sk_leantBy) (sk_lines) (.int (nI P)) (ch_patch) (.ref cfA) (ch_firstLine) (ch_adds) (ch_files) f ca ux (CA ux) H.size (by omega) hca (by omega)) (cwV 1 hts (xg_V gw_889 gw_890 gw_891 gw_3 gw_892) rfl rfl rfl (by decide +kernel) ⟨Nat.le_of_ble_eq_true rfl, Nat.le_of_ble_eq_true rfl⟩) ⟨xw_blind, va_recv hK hPc (ci := 9) (q0 := 0) rfl rfl, fun U hU hW => ⟨rfl, by rw [hU], by rw [hU]; exact hPc, va_K.moved hW.alike hK, hDc.weaken (fun _ _ _ _ => trivial)⟩⟩ rfl rfl hl.1 rfl (lv_room (Nat.le_of_ble_eq_true rfl)) d_In_fileOfLine_17 ⟨Nat.le_of_ble_eq_true rfl, Nat.le_of_ble_eq_true rfl⟩) hS (fun q _ h => hFc q h) hFc (fun r9 u t H1 locs ht hvm hw hB hz1 hk1 hS => ?_)
    obtain ⟨hP1, hK1, hD1⟩ := hB
    rw [ht] at hP1
    obtain ⟨hP, hD⟩ := va_join (wr := [(cfA, .inl (cI, 38000, .inl cff)), (h, .inr (3, [.ref sk, .ref ch, it_lines, it_sha, it_form, .ref naA, it_linesOfFile, it_nextFile, it_nextLine])), (fdA, .inl (cI, 502, .inl fdf)), (dpA, .inl (cI, 8400, .inl dpf)), (fcA, .inl (cI, 502, .inl fcf)), (naA, .inl (cI, 2048, .inl (nmU f nd k nf)))]) (w1 := [(sk, .inr (9, [.ref b_y, sk_from, .ref fdA, .ref fcA, .ref dpA, sk_hashes, sk_byHash, sk_leansOn, sk_leantBy, .ref ch, sk_lines, .int (nI P)])), (b_y, .inl (cB, 290000, .inl f)), (ch, .inr (1, [.ref cat, ch_patch, .ref cfA, ch_firstLine, ch_adds, ch_files])), (cat, .inl (cI, 38000, .inl ca))]) hP hD [4, 5, 0, 1] [2, 3, 6, 7, 8, 9] rfl rfl (by decide) (by decide) hk1 hFc hP1 hD1
    generalize H1 = H at hP hS ⊢
    have hP : va_P (dC, dI) classes [(cfA, .inl (cI, 38000, .inl cff)), (h, .inr (3, [.ref sk, .ref ch, it_lines, it_sha, it_form, .ref naA, it_linesOfFile, it_nextFile, it_nextLine])), (fdA, .inl (cI, 502, .inl fdf)), (dpA, .inl (cI, 8400, .inl dpf)), (fcA, .inl (cI, 502, .inl fcf)), (naA, .inl (cI, 2048, .inl (nmU f nd k nf))), (sk, .inr (9, [.ref b_y, sk_from, .ref fdA, .ref fcA, .ref dpA, sk_hashes, sk_byHash, sk_leansOn, sk_leantBy, .ref ch, sk_lines, .int (nI P)])), (b_y, .inl (cB, 290000, .inl f)), (ch, .inr (1, [.ref cat, ch_patch, .ref cfA, ch_firstLine, ch_adds, ch_files])), (cat, .inl (cI, 38000, .inl ca))] H := hP
    have hD : va_D A [(cfA, .inl (cI, 38000, .inl cff)), (h, .inr (3, [.ref sk, .ref ch, it_lines, it_sha, it_form, .ref naA, it_linesOfFile, it_nextFile, it_nextLine])), (fdA, .inl (cI, 502, .inl fdf)), (dpA, .inl (cI, 8400, .inl dpf)), (fcA, .inl (cI, 502, .inl fcf)), (naA, .inl (cI, 2048, .inl (nmU f nd k nf))), (sk, .inr (9, [.ref b_y, sk_from, .ref fdA, .ref fcA, .ref dpA, sk_hashes, sk_byHash, sk_leansOn, sk_leantBy, .ref ch, sk_lines, .int (nI P)])), (b_y, .inl (cB, 290000, .inl f)), (ch, .inr (1, [.ref cat, ch_patch, .ref cfA, ch_firstLine, ch_adds, ch_files])), (cat, .inl (cI, 38000, .inl ca))] := hD
    subst hw
    refine lv_iconst (v := 2) hx hb d_In_fileOfLine_20 (by decide) ?_
    refine lv_icmp_eq (tgt := 26) hx hb d_In_fileOfLine_21 (by decide) (fun c_21 => ?_) (fun c_21 => ?_)
    · refine lv_aload_n hx hb d_In_fileOfLine_26 rfl (lv_at hl 1 rfl) ?_
      refine va_get (D := (dC, dI)) (ci := 3) (v := .ref sk) (C := R_In) (T := F_In) (N := 9) hx hb hts i_In hown hK hP 1 rfl rfl 0 (by decide) (hts _ gw_284) (fun _ h9 => h9) rfl d_In_fileOfLine_27 ?_
      refine lv_iload_n hx hb d_In_fileOfLine_30 rfl (lv_at hl 3 rfl) ?_
      refine lv_iconst (v := 4) hx hb d_In_fileOfLine_31 (by decide) ?_
      refine lv_iadd hx hb d_In_fileOfLine_32 ?_
      refine lv_topi (fun x_1 ex_1 => ?_)
      obtain rfl : x_1 = nI (k + 4) := by rw [ex_1]; first | done | (exact nI_add _ _)
      have hPc := hP.sub (ws' := [(sk, .inr (9, [.ref b_y, sk_from, .ref fdA, .ref fcA, .ref dpA, sk_hashes, sk_byHash, sk_leansOn, sk_leantBy, .ref ch, sk_lines, .int (nI P)])), (b_y, .inl (cB, 290000, .inl f))]) [6, 7] rfl
      have hDc := hD.sub (ws' := [(sk, .inr (9, [.ref b_y, sk_from, .ref fdA, .ref fcA, .ref dpA, sk_hashes, sk_byHash, sk_leansOn, sk_leantBy, .ref ch, sk_lines, .int (nI P)])), (b_y, .inl (cB, 290000, .inl f))]) [6, 7] (by decide) rfl
      have hFc := va_free (wc := [(sk, .inr (9, [.ref b_y, sk_from, .ref fdA, .ref fcA, .ref dpA, sk_hashes, sk_byHash, sk_leansOn, sk_leantBy, .ref ch, sk_lines, .int (nI P)])), (b_y, .inl (cB, 290000, .inl f))]) hD hS hA [6, 7] rfl
      refine va_calli (va_runV (As := [.int (nI (k + 4))]) (rest := []) ⟨hx, hb, hml, hown, hts⟩ (m_St_two l dC dI cI cB cL cZ cR sk b_y (sk_from) (.ref fdA) (.ref fcA) (.ref dpA) (sk_hashes) (sk_byHash) (sk_leansOn) (sk_leantBy) (.ref ch) (sk_lines) (.int (nI P)) f (k + 4) H.size (by omega)) (cwV 1 hts (xg_V gw_815 gw_771 gw_772 gw_3 gw_773) rfl rfl rfl (by decide +kernel) ⟨Nat.le_of_ble_eq_true rfl, Nat.le_of_ble_eq_true rfl⟩) ⟨xw_blind, va_recv hK hPc (ci := 9) (q0 := 0) rfl rfl, fun U hU hW => ⟨rfl, by rw [hU], by rw [hU]; exact hPc, va_K.moved hW.alike hK, hDc.weaken (fun _ _ _ _ => trivial)⟩⟩ rfl rfl hl.1 rfl (lv_room (Nat.le_of_ble_eq_true rfl)) d_In_fileOfLine_33 ⟨Nat.le_of_ble_eq_true rfl, Nat.le_of_ble_eq_true rfl⟩) hS (fun q _ h => hFc q h) hFc (fun r9 u t H1 locs ht hvm hw hB hz1 hk1 hS => ?_)
      obtain ⟨hP1, hK1, hD1⟩ := hB
      rw [ht] at hP1
      obtain ⟨hP, hD⟩ := va_join (wr := [(cfA, .inl (cI, 38000, .inl cff)), (h, .inr (3, [.ref sk, .ref ch, it_lines, it_sha, it_form, .ref naA, it_linesOfFile, it_nextFile, it_nextLine])), (fdA, .inl (cI, 502, .inl fdf)), (dpA, .inl (cI, 8400, .inl dpf)), (fcA, .inl (cI, 502, .inl fcf)), (naA, .inl (cI, 2048, .inl (nmU f nd k nf))), (ch, .inr (1, [.ref cat, ch_patch, .ref cfA, ch_firstLine, ch_adds, ch_files])), (cat, .inl (cI, 38000, .inl ca))]) (w1 := [(sk, .inr (9, [.ref b_y, sk_from, .ref fdA, .ref fcA, .ref dpA, sk_hashes, sk_byHash, sk_leansOn, sk_leantBy, .ref ch, sk_lines, .int (nI P)])), (b_y, .inl (cB, 290000, .inl f))]) hP hD [6, 7] [0, 1, 2, 3, 4, 5, 8, 9] rfl rfl (by decide) (by decide) hk1 hFc hP1 hD1
      generalize H1 = H at hP hS ⊢
      have hP : va_P (dC, dI) classes [(cfA, .inl (cI, 38000, .inl cff)), (h, .inr (3, [.ref sk, .ref ch, it_lines, it_sha, it_form, .ref naA, it_linesOfFile, it_nextFile, it_nextLine])), (fdA, .inl (cI, 502, .inl fdf)), (dpA, .inl (cI, 8400, .inl dpf)), (fcA, .inl (cI, 502, .inl fcf)), (naA, .inl (cI, 2048, .inl (nmU f nd k nf))), (ch, .inr (1, [.ref cat, ch_patch, .ref cfA, ch_firstLine, ch_adds, ch_files])), (cat, .inl (cI, 38000, .inl ca)), (sk, .inr (9, [.ref b_y, sk_from, .ref fdA, .ref fcA, .ref dpA, sk_hashes, sk_byHash, sk_leansOn, sk_leantBy, .ref ch, sk_lines, .int (nI P)])), (b_y, .inl (cB, 290000, .inl f))] H := hP
      have hD : va_D A [(cfA, .inl (cI, 38000, .inl cff)), (h, .inr (3, [.ref sk, .ref ch, it_lines, it_sha, it_form, .ref naA, it_linesOfFile, it_nextFile, it_nextLine])), (fdA, .inl (cI, 502, .inl fdf)), (dpA, .inl (cI, 8400, .inl dpf)), (fcA, .inl (cI, 502, .inl fcf)), (naA, .inl (cI, 2048, .inl (nmU f nd k nf))), (ch, .inr (1, [.ref cat, ch_patch, .ref cfA, ch_firstLine, ch_adds, ch_files])), (cat, .inl (cI, 38000, .inl ca)), (sk, .inr (9, [.ref b_y, sk_from, .ref fdA, .ref fcA, .ref dpA, sk_hashes, sk_byHash, sk_leansOn, sk_leantBy, .ref ch, sk_lines, .int (nI P)])), (b_y, .inl (cB, 290000, .inl f))] := hD
      subst hw
      have htw9 := tw_lt f (k + 4)
      refine lv_aload_n hx hb d_In_fileOfLine_36 rfl (lv_at hl 1 rfl) ?_
      refine va_get (D := (dC, dI)) (ci := 3) (v := .ref sk) (C := R_In) (T := F_In) (N := 9) hx hb hts i_In hown hK hP 1 rfl rfl 0 (by decide) (hts _ gw_284) (fun _ h9 => h9) rfl d_In_fileOfLine_37 ?_
      refine lv_aload_n hx hb d_In_fileOfLine_40 rfl (lv_at hl 1 rfl) ?_
      refine va_get (D := (dC, dI)) (ci := 3) (v := .ref sk) (C := R_In) (T := F_In) (N := 9) hx hb hts i_In hown hK hP 1 rfl rfl 0 (by decide) (hts _ gw_284) (fun _ h9 => h9) rfl d_In_fileOfLine_41 ?_
      refine lv_iload_n hx hb d_In_fileOfLine_44 rfl (lv_at hl 0 rfl) ?_
      have hgi := gI ux hxl c_21
      have hPc := hP.sub (ws' := [(sk, .inr (9, [.ref b_y, sk_from, .ref fdA, .ref fcA, .ref dpA, sk_hashes, sk_byHash, sk_leansOn, sk_leantBy, .ref ch, sk_lines, .int (nI P)])), (b_y, .inl (cB, 290000, .inl f)), (ch, .inr (1, [.ref cat, ch_patch, .ref cfA, ch_firstLine, ch_adds, ch_files])), (cat, .inl (cI, 38000, .inl ca))]) [8, 9, 6, 7] rfl
      have hDc := hD.sub (ws' := [(sk, .inr (9, [.ref b_y, sk_from, .ref fdA, .ref fcA, .ref dpA, sk_hashes, sk_byHash, sk_leansOn, sk_leantBy, .ref ch, sk_lines, .int (nI P)])), (b_y, .inl (cB, 290000, .inl f)), (ch, .inr (1, [.ref cat, ch_patch, .ref cfA, ch_firstLine, ch_adds, ch_files])), (cat, .inl (cI, 38000, .inl ca))]) [8, 9, 6, 7] (by decide) rfl
      have hFc := va_free (wc := [(sk, .inr (9, [.ref b_y, sk_from, .ref fdA, .ref fcA, .ref dpA, sk_hashes, sk_byHash, sk_leansOn, sk_leantBy, .ref ch, sk_lines, .int (nI P)])), (b_y, .inl (cB, 290000, .inl f)), (ch, .inr (1, [.ref cat, ch_patch, .ref cfA, ch_firstLine, ch_adds, ch_files])), (cat, .inl (cI, 38000, .inl ca))]) hD hS hA [8, 9, 6, 7] rfl
      refine va_calli (va_runV (As := [.int (nI ux)]) (rest := [.ref sk, .int (nI (tw f (k + 4)))]) ⟨hx, hb, hml, hown, hts⟩ (m_St_linesAt l dC dI cI cB cL cZ cR sk b_y ch cat (sk_from) (.ref fdA) (.ref fcA) (.ref dpA) (sk_hashes) (sk_byHash) (sk_leansOn) (sk_leantBy) (sk_lines) (.int (nI P)) (ch_patch) (.ref cfA) (ch_firstLine) (ch_adds) (ch_files) f ca ux (CA ux) H.size (by omega) hca hcb (gI ux hxl c_21).1) (cwV 1 hts (xg_V gw_918 gw_919 gw_920 gw_3 gw_921) rfl rfl rfl (by decide +kernel) ⟨Nat.le_of_ble_eq_true rfl, Nat.le_of_ble_eq_true rfl⟩) ⟨xw_blind, va_recv hK hPc (ci := 9) (q0 := 0) rfl rfl, fun U hU hW => ⟨rfl, by rw [hU], by rw [hU]; exact hPc, va_K.moved hW.alike hK, hDc.weaken (fun _ _ _ _ => trivial)⟩⟩ rfl rfl hl.1 rfl (lv_room (Nat.le_of_ble_eq_true rfl)) d_In_fileOfLine_45 ⟨Nat.le_of_ble_eq_true rfl, Nat.le_of_ble_eq_true rfl⟩) hS (fun q _ h => hFc q h) hFc (fun r9 u t H1 locs ht hvm hw hB hz1 hk1 hS => ?_)
      obtain ⟨hP1, hK1, hD1⟩ := hB
      rw [ht] at hP1
      obtain ⟨hP, hD⟩ := va_join (wr := [(cfA, .inl (cI, 38000, .inl cff)), (h, .inr (3, [.ref sk, .ref ch, it_lines, it_sha, it_form, .ref naA, it_linesOfFile, it_nextFile, it_nextLine])), (fdA, .inl (cI, 502, .inl fdf)), (dpA, .inl (cI, 8400, .inl dpf)), (fcA, .inl (cI, 502, .inl fcf)), (naA, .inl (cI, 2048, .inl (nmU f nd k nf)))]) (w1 := [(sk, .inr (9, [.ref b_y, sk_from, .ref fdA, .ref fcA, .ref dpA, sk_hashes, sk_byHash, sk_leansOn, sk_leantBy, .ref ch, sk_lines, .int (nI P)])), (b_y, .inl (cB, 290000, .inl f)), (ch, .inr (1, [.ref cat, ch_patch, .ref cfA, ch_firstLine, ch_adds, ch_files])), (cat, .inl (cI, 38000, .inl ca))]) hP hD [8, 9, 6, 7] [0, 1, 2, 3, 4, 5] rfl rfl (by decide) (by decide) hk1 hFc hP1 hD1
      generalize H1 = H at hP hS ⊢
      have hP : va_P (dC, dI) classes [(cfA, .inl (cI, 38000, .inl cff)), (h, .inr (3, [.ref sk, .ref ch, it_lines, it_sha, it_form, .ref naA, it_linesOfFile, it_nextFile, it_nextLine])), (fdA, .inl (cI, 502, .inl fdf)), (dpA, .inl (cI, 8400, .inl dpf)), (fcA, .inl (cI, 502, .inl fcf)), (naA, .inl (cI, 2048, .inl (nmU f nd k nf))), (sk, .inr (9, [.ref b_y, sk_from, .ref fdA, .ref fcA, .ref dpA, sk_hashes, sk_byHash, sk_leansOn, sk_leantBy, .ref ch, sk_lines, .int (nI P)])), (b_y, .inl (cB, 290000, .inl f)), (ch, .inr (1, [.ref cat, ch_patch, .ref cfA, ch_firstLine, ch_adds, ch_files])), (cat, .inl (cI, 38000, .inl ca))] H := hP
      have hD : va_D A [(cfA, .inl (cI, 38000, .inl cff)), (h, .inr (3, [.ref sk, .ref ch, it_lines, it_sha, it_form, .ref naA, it_linesOfFile, it_nextFile, it_nextLine])), (fdA, .inl (cI, 502, .inl fdf)), (dpA, .inl (cI, 8400, .inl dpf)), (fcA, .inl (cI, 502, .inl fcf)), (naA, .inl (cI, 2048, .inl (nmU f nd k nf))), (sk, .inr (9, [.ref b_y, sk_from, .ref fdA, .ref fcA, .ref dpA, sk_hashes, sk_byHash, sk_leansOn, sk_leantBy, .ref ch, sk_lines, .int (nI P)])), (b_y, .inl (cB, 290000, .inl f)), (ch, .inr (1, [.ref cat, ch_patch, .ref cfA, ch_firstLine, ch_adds, ch_files])), (cat, .inl (cI, 38000, .inl ca))] := hD
      subst hw
      have hgi2 : lnAt f (CA ux) + 1 < 290000 := hgi.2
      have hPc := hP.sub (ws' := [(sk, .inr (9, [.ref b_y, sk_from, .ref fdA, .ref fcA, .ref dpA, sk_hashes, sk_byHash, sk_leansOn, sk_leantBy, .ref ch, sk_lines, .int (nI P)])), (b_y, .inl (cB, 290000, .inl f))]) [6, 7] rfl
      have hDc := hD.sub (ws' := [(sk, .inr (9, [.ref b_y, sk_from, .ref fdA, .ref fcA, .ref dpA, sk_hashes, sk_byHash, sk_leansOn, sk_leantBy, .ref ch, sk_lines, .int (nI P)])), (b_y, .inl (cB, 290000, .inl f))]) [6, 7] (by decide) rfl
      have hFc := va_free (wc := [(sk, .inr (9, [.ref b_y, sk_from, .ref fdA, .ref fcA, .ref dpA, sk_hashes, sk_byHash, sk_leansOn, sk_leantBy, .ref ch, sk_lines, .int (nI P)])), (b_y, .inl (cB, 290000, .inl f))]) hD hS hA [6, 7] rfl
      refine va_calli (va_runV (As := [.int (nI (lnAt f (CA ux)))]) (rest := [.int (nI (tw f (k + 4)))]) ⟨hx, hb, hml, hown, hts⟩ (m_St_two l dC dI cI cB cL cZ cR sk b_y (sk_from) (.ref fdA) (.ref fcA) (.ref dpA) (sk_hashes) (sk_byHash) (sk_leansOn) (sk_leantBy) (.ref ch) (sk_lines) (.int (nI P)) f (lnAt f (CA ux)) H.size (by omega)) (cwV 1 hts (xg_V gw_815 gw_771 gw_772 gw_3 gw_773) rfl rfl rfl (by decide +kernel) ⟨Nat.le_of_ble_eq_true rfl, Nat.le_of_ble_eq_true rfl⟩) ⟨xw_blind, va_recv hK hPc (ci := 9) (q0 := 0) rfl rfl, fun U hU hW => ⟨rfl, by rw [hU], by rw [hU]; exact hPc, va_K.moved hW.alike hK, hDc.weaken (fun _ _ _ _ => trivial)⟩⟩ rfl rfl hl.1 rfl (lv_room (Nat.le_of_ble_eq_true rfl)) d_In_fileOfLine_48 ⟨Nat.le_of_ble_eq_true rfl, Nat.le_of_ble_eq_true rfl⟩) hS (fun q _ h => hFc q h) hFc (fun r9 u t H1 locs ht hvm hw hB hz1 hk1 hS => ?_)
      obtain ⟨hP1, hK1, hD1⟩ := hB
      rw [ht] at hP1
      obtain ⟨hP, hD⟩ := va_join (wr := [(cfA, .inl (cI, 38000, .inl cff)), (h, .inr (3, [.ref sk, .ref ch, it_lines, it_sha, it_form, .ref naA, it_linesOfFile, it_nextFile, it_nextLine])), (fdA, .inl (cI, 502, .inl fdf)), (dpA, .inl (cI, 8400, .inl dpf)), (fcA, .inl (cI, 502, .inl fcf)), (naA, .inl (cI, 2048, .inl (nmU f nd k nf))), (ch, .inr (1, [.ref cat, ch_patch, .ref cfA, ch_firstLine, ch_adds, ch_files])), (cat, .inl (cI, 38000, .inl ca))]) (w1 := [(sk, .inr (9, [.ref b_y, sk_from, .ref fdA, .ref fcA, .ref dpA, sk_hashes, sk_byHash, sk_leansOn, sk_leantBy, .ref ch, sk_lines, .int (nI P)])), (b_y, .inl (cB, 290000, .inl f))]) hP hD [6, 7] [0, 1, 2, 3, 4, 5, 8, 9] rfl rfl (by decide) (by decide) hk1 hFc hP1 hD1
      generalize H1 = H at hP hS ⊢
      have hP : va_P (dC, dI) classes [(cfA, .inl (cI, 38000, .inl cff)), (h, .inr (3, [.ref sk, .ref ch, it_lines, it_sha, it_form, .ref naA, it_linesOfFile, it_nextFile, it_nextLine])), (fdA, .inl (cI, 502, .inl fdf)), (dpA, .inl (cI, 8400, .inl dpf)), (fcA, .inl (cI, 502, .inl fcf)), (naA, .inl (cI, 2048, .inl (nmU f nd k nf))), (ch, .inr (1, [.ref cat, ch_patch, .ref cfA, ch_firstLine, ch_adds, ch_files])), (cat, .inl (cI, 38000, .inl ca)), (sk, .inr (9, [.ref b_y, sk_from, .ref fdA, .ref fcA, .ref dpA, sk_hashes, sk_byHash, sk_leansOn, sk_leantBy, .ref ch, sk_lines, .int (nI P)])), (b_y, .inl (cB, 290000, .inl f))] H := hP
      have hD : va_D A [(cfA, .inl (cI, 38000, .inl cff)), (h, .inr (3, [.ref sk, .ref ch, it_lines, it_sha, it_form, .ref naA, it_linesOfFile, it_nextFile, it_nextLine])), (fdA, .inl (cI, 502, .inl fdf)), (dpA, .inl (cI, 8400, .inl dpf)), (fcA, .inl (cI, 502, .inl fcf)), (naA, .inl (cI, 2048, .inl (nmU f nd k nf))), (ch, .inr (1, [.ref cat, ch_patch, .ref cfA, ch_firstLine, ch_adds, ch_files])), (cat, .inl (cI, 38000, .inl ca)), (sk, .inr (9, [.ref b_y, sk_from, .ref fdA, .ref fcA, .ref dpA, sk_hashes, sk_byHash, sk_leansOn, sk_leantBy, .ref ch, sk_lines, .int (nI P)])), (b_y, .inl (cB, 290000, .inl f))] := hD
      subst hw
      have htw9 := tw_lt f (lnAt f (CA ux))
      refine lv_icmp_ge (tgt := 66) hx hb d_In_fileOfLine_51 (by decide) (fun c_51 => ?_) (fun c_51 => ?_)
      · have n_51 : (tw f (lnAt f (CA ux))) ≤ (tw f (k + 4)) := (nI_leI (a := (tw f (lnAt f (CA ux)))) (b := (tw f (k + 4))) (by omega) (by omega)).mp c_51
        refine lv_iconst (v := (-1)) hx hb d_In_fileOfLine_66 (by decide) ?_
        have hP := hP.sub (ws' := [(h, .inr (3, [.ref sk, .ref ch, it_lines, it_sha, it_form, .ref naA, it_linesOfFile, it_nextFile, it_nextLine])), (sk, .inr (9, [.ref b_y, sk_from, .ref fdA, .ref fcA, .ref dpA, sk_hashes, sk_byHash, sk_leansOn, sk_leantBy, .ref ch, sk_lines, .int (nI P)])), (b_y, .inl (cB, 290000, .inl f)), (fdA, .inl (cI, 502, .inl fdf)), (dpA, .inl (cI, 8400, .inl dpf)), (fcA, .inl (cI, 502, .inl fcf)), (naA, .inl (cI, 2048, .inl (nmU f nd k nf))), (ch, .inr (1, [.ref cat, ch_patch, .ref cfA, ch_firstLine, ch_adds, ch_files])), (cat, .inl (cI, 38000, .inl ca)), (cfA, .inl (cI, 38000, .inl cff))]) [1, 8, 9, 2, 3, 4, 5, 6, 7, 0] rfl
        have hD := hD.sub (ws' := [(h, .inr (3, [.ref sk, .ref ch, it_lines, it_sha, it_form, .ref naA, it_linesOfFile, it_nextFile, it_nextLine])), (sk, .inr (9, [.ref b_y, sk_from, .ref fdA, .ref fcA, .ref dpA, sk_hashes, sk_byHash, sk_leansOn, sk_leantBy, .ref ch, sk_lines, .int (nI P)])), (b_y, .inl (cB, 290000, .inl f)), (fdA, .inl (cI, 502, .inl fdf)), (dpA, .inl (cI, 8400, .inl dpf)), (fcA, .inl (cI, 502, .inl fcf)), (naA, .inl (cI, 2048, .inl (nmU f nd k nf))), (ch, .inr (1, [.ref cat, ch_patch, .ref cfA, ch_firstLine, ch_adds, ch_files])), (cat, .inl (cI, 38000, .inl ca)), (cfA, .inl (cI, 38000, .inl cff))]) [1, 8, 9, 2, 3, 4, 5, 6, 7, 0] (by decide) rfl
        rw [← hQe]
        exact W.iret (v := (-1)) hx hb hr (fun t ht hW => ⟨⟨_, (0, nmU f nd k nf), rfl, ⟨Or.inr ⟨rfl, fun q ⟨x, z1, z2, z3, _⟩ => by rw [cnR.uniq hnd z1 hcn] at z3; exact absurd z3 (by omega)⟩, rfl⟩, by rw [ht]; exact hP, va_K.moved hW.alike hK, hD⟩, hS.F ht⟩) hS.2.2 d_In_fileOfLine_67
      · have n_51 : (tw f (k + 4)) < (tw f (lnAt f (CA ux))) := Nat.lt_of_not_le (fun z => c_51 ((nI_leI (a := (tw f (lnAt f (CA ux)))) (b := (tw f (k + 4))) (by omega) (by omega)).mpr z))
        refine lv_aload_n hx hb d_In_fileOfLine_54 rfl (lv_at hl 1 rfl) ?_
        refine va_get (D := (dC, dI)) (ci := 3) (v := .ref ch) (C := R_In) (T := F_In) (N := 9) hx hb hts i_In hown hK hP 1 rfl rfl 1 (by decide) (hts _ gw_285) (fun _ h9 => h9) rfl d_In_fileOfLine_55 ?_
        refine va_get (D := (dC, dI)) (ci := 1) (v := .ref cfA) (C := R_Ch) (T := F_Ch) (N := 6) hx hb hts i_Ch hown hK hP 6 rfl rfl 2 (by decide) (hts _ gw_102) (fun _ h9 => h9) rfl d_In_fileOfLine_58 ?_
        refine lv_iload_n hx hb d_In_fileOfLine_61 rfl (lv_at hl 0 rfl) ?_
        refine va_iald hx hb hK hP 0 0 rfl rfl (vp_in_nI (by omega) (by omega)) d_In_fileOfLine_62 ?_
        rw [show (nI ux).toNatClampNeg = ux from nI_clamp (by omega)]
        refine lv_topi (fun x_2 ex_2 => ?_)
        obtain rfl : x_2 = nI (CF ux) := by rw [ex_2]; first | done | (exact (gF ux hxl).1)
        refine lv_goto (tgt := 67) hx hb d_In_fileOfLine_63 (by decide) ?_
        have hP := hP.sub (ws' := [(h, .inr (3, [.ref sk, .ref ch, it_lines, it_sha, it_form, .ref naA, it_linesOfFile, it_nextFile, it_nextLine])), (sk, .inr (9, [.ref b_y, sk_from, .ref fdA, .ref fcA, .ref dpA, sk_hashes, sk_byHash, sk_leansOn, sk_leantBy, .ref ch, sk_lines, .int (nI P)])), (b_y, .inl (cB, 290000, .inl f)), (fdA, .inl (cI, 502, .inl fdf)), (dpA, .inl (cI, 8400, .inl dpf)), (fcA, .inl (cI, 502, .inl fcf)), (naA, .inl (cI, 2048, .inl (nmU f nd k nf))), (ch, .inr (1, [.ref cat, ch_patch, .ref cfA, ch_firstLine, ch_adds, ch_files])), (cat, .inl (cI, 38000, .inl ca)), (cfA, .inl (cI, 38000, .inl cff))]) [1, 8, 9, 2, 3, 4, 5, 6, 7, 0] rfl
        have hD := hD.sub (ws' := [(h, .inr (3, [.ref sk, .ref ch, it_lines, it_sha, it_form, .ref naA, it_linesOfFile, it_nextFile, it_nextLine])), (sk, .inr (9, [.ref b_y, sk_from, .ref fdA, .ref fcA, .ref dpA, sk_hashes, sk_byHash, sk_leansOn, sk_leantBy, .ref ch, sk_lines, .int (nI P)])), (b_y, .inl (cB, 290000, .inl f)), (fdA, .inl (cI, 502, .inl fdf)), (dpA, .inl (cI, 8400, .inl dpf)), (fcA, .inl (cI, 502, .inl fcf)), (naA, .inl (cI, 2048, .inl (nmU f nd k nf))), (ch, .inr (1, [.ref cat, ch_patch, .ref cfA, ch_firstLine, ch_adds, ch_files])), (cat, .inl (cI, 38000, .inl ca)), (cfA, .inl (cI, 38000, .inl cff))]) [1, 8, 9, 2, 3, 4, 5, 6, 7, 0] (by decide) rfl
        rw [← hQe]
        exact W.iret (v := nI (CF ux)) hx hb hr (fun t ht hW => ⟨⟨_, ((CF ux), nmU f nd k nf), rfl, ⟨Or.inl ⟨⟨ux, hcn, c_21, n_51, rfl⟩, rfl⟩, rfl⟩, by rw [ht]; exact hP, va_K.moved hW.alike hK, hD⟩, hS.F ht⟩) hS.2.2 d_In_fileOfLine_67
    · refine lv_iconst (v := (-1)) hx hb d_In_fileOfLine_24 (by decide) ?_
      have hP := hP.sub (ws' := [(h, .inr (3, [.ref sk, .ref ch, it_lines, it_sha, it_form, .ref naA, it_linesOfFile, it_nextFile, it_nextLine])), (sk, .inr (9, [.ref b_y, sk_from, .ref fdA, .ref fcA, .ref dpA, sk_hashes, sk_byHash, sk_leansOn, sk_leantBy, .ref ch, sk_lines, .int (nI P)])), (b_y, .inl (cB, 290000, .inl f)), (fdA, .inl (cI, 502, .inl fdf)), (dpA, .inl (cI, 8400, .inl dpf)), (fcA, .inl (cI, 502, .inl fcf)), (naA, .inl (cI, 2048, .inl (nmU f nd k nf))), (ch, .inr (1, [.ref cat, ch_patch, .ref cfA, ch_firstLine, ch_adds, ch_files])), (cat, .inl (cI, 38000, .inl ca)), (cfA, .inl (cI, 38000, .inl cff))]) [1, 6, 7, 2, 3, 4, 5, 8, 9, 0] rfl
      have hD := hD.sub (ws' := [(h, .inr (3, [.ref sk, .ref ch, it_lines, it_sha, it_form, .ref naA, it_linesOfFile, it_nextFile, it_nextLine])), (sk, .inr (9, [.ref b_y, sk_from, .ref fdA, .ref fcA, .ref dpA, sk_hashes, sk_byHash, sk_leansOn, sk_leantBy, .ref ch, sk_lines, .int (nI P)])), (b_y, .inl (cB, 290000, .inl f)), (fdA, .inl (cI, 502, .inl fdf)), (dpA, .inl (cI, 8400, .inl dpf)), (fcA, .inl (cI, 502, .inl fcf)), (naA, .inl (cI, 2048, .inl (nmU f nd k nf))), (ch, .inr (1, [.ref cat, ch_patch, .ref cfA, ch_firstLine, ch_adds, ch_files])), (cat, .inl (cI, 38000, .inl ca)), (cfA, .inl (cI, 38000, .inl cff))]) [1, 6, 7, 2, 3, 4, 5, 8, 9, 0] (by decide) rfl
      rw [← hQe]
      exact W.iret (v := (-1)) hx hb hr (fun t ht hW => ⟨⟨_, (0, nmU f nd k nf), rfl, ⟨Or.inr ⟨rfl, fun q ⟨x, z1, z2, _⟩ => c_21 (cnR.uniq hnd z1 hcn ▸ z2)⟩, rfl⟩, by rw [ht]; exact hP, va_K.moved hW.alike hK, hD⟩, hS.F ht⟩) hS.2.2 d_In_fileOfLine_25
  · have hP : va_P (dC, dI) classes [(ch, .inr (1, [.ref cat, ch_patch, .ref cfA, ch_firstLine, ch_adds, ch_files])), (cat, .inl (cI, 38000, .inl ca)), (cfA, .inl (cI, 38000, .inl cff)), (h, .inr (3, [.ref sk, .ref ch, it_lines, it_sha, it_form, .ref naA, it_linesOfFile, it_nextFile, it_nextLine])), (sk, .inr (9, [.ref b_y, sk_from, .ref fdA, .ref fcA, .ref dpA, sk_hashes, sk_byHash, sk_leansOn, sk_leantBy, .ref ch, sk_lines, .int (nI P)])), (b_y, .inl (cB, 290000, .inl f)), (fdA, .inl (cI, 502, .inl fdf)), (dpA, .inl (cI, 8400, .inl dpf)), (fcA, .inl (cI, 502, .inl fcf)), (naA, .inl (cI, 2048, .inl (nmU f nd k nf)))] H := hP
    have hD : va_D A [(ch, .inr (1, [.ref cat, ch_patch, .ref cfA, ch_firstLine, ch_adds, ch_files])), (cat, .inl (cI, 38000, .inl ca)), (cfA, .inl (cI, 38000, .inl cff)), (h, .inr (3, [.ref sk, .ref ch, it_lines, it_sha, it_form, .ref naA, it_linesOfFile, it_nextFile, it_nextLine])), (sk, .inr (9, [.ref b_y, sk_from, .ref fdA, .ref fcA, .ref dpA, sk_hashes, sk_byHash, sk_leansOn, sk_leantBy, .ref ch, sk_lines, .int (nI P)])), (b_y, .inl (cB, 290000, .inl f)), (fdA, .inl (cI, 502, .inl fdf)), (dpA, .inl (cI, 8400, .inl dpf)), (fcA, .inl (cI, 502, .inl fcf)), (naA, .inl (cI, 2048, .inl (nmU f nd k nf)))] := hD
    refine lv_istore_n (lv' := [(3, .int (-1)), (0, .ref h), (1, .int (nI cc)), (2, .int (nI k))]) hx hb d_In_fileOfLine_6 rfl hl (by decide) rfl (fun ls hl => ?_)
    refine lv_iload_n hx hb d_In_fileOfLine_7 rfl (lv_at hl 0 rfl) ?_
    refine lv_iconst (v := (-1)) hx hb d_In_fileOfLine_8 (by decide) ?_
    refine lv_icmp_eq (tgt := 24) hx hb d_In_fileOfLine_9 (by decide) (fun _ => ?_) (fun c_9 => absurd (by decide) c_9)
    refine lv_iconst (v := (-1)) hx hb d_In_fileOfLine_24 (by decide) ?_
    have hP := hP.sub (ws' := [(h, .inr (3, [.ref sk, .ref ch, it_lines, it_sha, it_form, .ref naA, it_linesOfFile, it_nextFile, it_nextLine])), (sk, .inr (9, [.ref b_y, sk_from, .ref fdA, .ref fcA, .ref dpA, sk_hashes, sk_byHash, sk_leansOn, sk_leantBy, .ref ch, sk_lines, .int (nI P)])), (b_y, .inl (cB, 290000, .inl f)), (fdA, .inl (cI, 502, .inl fdf)), (dpA, .inl (cI, 8400, .inl dpf)), (fcA, .inl (cI, 502, .inl fcf)), (naA, .inl (cI, 2048, .inl (nmU f nd k nf))), (ch, .inr (1, [.ref cat, ch_patch, .ref cfA, ch_firstLine, ch_adds, ch_files])), (cat, .inl (cI, 38000, .inl ca)), (cfA, .inl (cI, 38000, .inl cff))]) [3, 4, 5, 6, 7, 8, 9, 0, 1, 2] rfl
    have hD := hD.sub (ws' := [(h, .inr (3, [.ref sk, .ref ch, it_lines, it_sha, it_form, .ref naA, it_linesOfFile, it_nextFile, it_nextLine])), (sk, .inr (9, [.ref b_y, sk_from, .ref fdA, .ref fcA, .ref dpA, sk_hashes, sk_byHash, sk_leansOn, sk_leantBy, .ref ch, sk_lines, .int (nI P)])), (b_y, .inl (cB, 290000, .inl f)), (fdA, .inl (cI, 502, .inl fdf)), (dpA, .inl (cI, 8400, .inl dpf)), (fcA, .inl (cI, 502, .inl fcf)), (naA, .inl (cI, 2048, .inl (nmU f nd k nf))), (ch, .inr (1, [.ref cat, ch_patch, .ref cfA, ch_firstLine, ch_adds, ch_files])), (cat, .inl (cI, 38000, .inl ca)), (cfA, .inl (cI, 38000, .inl cff))]) [3, 4, 5, 6, 7, 8, 9, 0, 1, 2] (by decide) rfl
    rw [← hQe]
    exact W.iret (v := (-1)) hx hb hr (fun t ht hW => ⟨⟨_, (0, nmU f nd k nf), rfl, ⟨Or.inr ⟨rfl, fun q ⟨x, z1, _⟩ => hcn x z1⟩, rfl⟩, by rw [ht]; exact hP, va_K.moved hW.alike hK, hD⟩, hS.F ht⟩) hS.2.2 d_In_fileOfLine_25
