section
/-! 26.ops0.lean.txt -/
theorem gw_991 : (Jvm.Cond.methodLink "PatchStore" (110 : Nat) ({ cls := "PatchStore", name := "fileAt", desc := "(LPatchStore$Repository;I)I" } : Jvm.MethodName)) ∈ xg_1 := xg_s5 31 rfl rfl
theorem gw_993 : (Jvm.Cond.instanceMethod ({ cls := "PatchStore", name := "fileAt", desc := "(LPatchStore$Repository;I)I" } : Jvm.MethodName)) ∈ xg_1 := xg_s5 33 rfl rfl
theorem gw_994 : (Jvm.Cond.code ({ cls := "PatchStore", name := "fileAt", desc := "(LPatchStore$Repository;I)I" } : Jvm.MethodName) prog_1_method_23_code (3 : Nat) (Option.some Jvm.ClassFile.FieldType.int)) ∈ xg_1 := xg_s5 34 rfl rfl
theorem gw_1218 : (Jvm.Cond.methodLink "PatchStore" (148 : Nat) ({ cls := "PatchStore", name := "checkPatch", desc := "(I)V" } : Jvm.MethodName)) ∈ xg_1 := xg_s6 18 rfl rfl
theorem gw_1220 : (Jvm.Cond.instanceMethod ({ cls := "PatchStore", name := "checkPatch", desc := "(I)V" } : Jvm.MethodName)) ∈ xg_1 := xg_s6 20 rfl rfl
theorem gw_1221 : (Jvm.Cond.code ({ cls := "PatchStore", name := "checkPatch", desc := "(I)V" } : Jvm.MethodName) prog_1_method_24_code (2 : Nat) (Option.none : Option Jvm.ClassFile.FieldType)) ∈ xg_1 := xg_s6 21 rfl rfl
def y_PS_call : MethodName := ⟨"PatchStore", "call", "(II)I"⟩
abbrev c_PS_call : Cond := (Jvm.Cond.code ({ cls := "PatchStore", name := "call", desc := "(II)I" } : Jvm.MethodName) prog_1_method_5_code (5 : Nat) (Option.some Jvm.ClassFile.FieldType.int))
abbrev ws_PS_call : List Cond := c_PS_call :: xg_1
theorem d_PS_call_0 : decode prog_1_method_5_code 0 = .ok (.aload_n 0, 1) := by decide +kernel
theorem d_PS_call_1 : decode prog_1_method_5_code 1 = .ok (.iload_n 1, 1) := by decide +kernel
theorem d_PS_call_2 : decode prog_1_method_5_code 2 = .ok (.invokevirtual 90, 3) := by decide +kernel
theorem d_PS_call_5 : decode prog_1_method_5_code 5 = .ok (.astore_n 3, 1) := by decide +kernel
theorem d_PS_call_6 : decode prog_1_method_5_code 6 = .ok (.aload_n 0, 1) := by decide +kernel
theorem d_PS_call_7 : decode prog_1_method_5_code 7 = .ok (.aload_n 3, 1) := by decide +kernel
theorem d_PS_call_8 : decode prog_1_method_5_code 8 = .ok (.iload_n 2, 1) := by decide +kernel
theorem d_PS_call_9 : decode prog_1_method_5_code 9 = .ok (.invokevirtual 110, 3) := by decide +kernel
theorem d_PS_call_12 : decode prog_1_method_5_code 12 = .ok (.istore 4, 2) := by decide +kernel
theorem d_PS_call_14 : decode prog_1_method_5_code 14 = .ok (.aload_n 0, 1) := by decide +kernel
theorem d_PS_call_15 : decode prog_1_method_5_code 15 = .ok (.getfield 76, 3) := by decide +kernel
theorem d_PS_call_18 : decode prog_1_method_5_code 18 = .ok (.ifCond .le 18, 3) := by decide +kernel
theorem d_PS_call_21 : decode prog_1_method_5_code 21 = .ok (.aload_n 0, 1) := by decide +kernel
theorem d_PS_call_22 : decode prog_1_method_5_code 22 = .ok (.invokevirtual 94, 3) := by decide +kernel
theorem d_PS_call_25 : decode prog_1_method_5_code 25 = .ok (.ifCond .ne 11, 3) := by decide +kernel
theorem d_PS_call_28 : decode prog_1_method_5_code 28 = .ok (.new 87, 3) := by decide +kernel
theorem d_PS_call_31 : decode prog_1_method_5_code 31 = .ok (.dup, 1) := by decide +kernel
theorem d_PS_call_32 : decode prog_1_method_5_code 32 = .ok (.invokespecial 89, 3) := by decide +kernel
theorem d_PS_call_35 : decode prog_1_method_5_code 35 = .ok (.athrow, 1) := by decide +kernel
theorem d_PS_call_36 : decode prog_1_method_5_code 36 = .ok (.aload_n 0, 1) := by decide +kernel
theorem d_PS_call_37 : decode prog_1_method_5_code 37 = .ok (.getfield 48, 3) := by decide +kernel
theorem d_PS_call_40 : decode prog_1_method_5_code 40 = .ok (.getfield 113, 3) := by decide +kernel
theorem d_PS_call_43 : decode prog_1_method_5_code 43 = .ok (.iload 4, 2) := by decide +kernel
theorem d_PS_call_45 : decode prog_1_method_5_code 45 = .ok (.iaload, 1) := by decide +kernel
theorem d_PS_call_46 : decode prog_1_method_5_code 46 = .ok (.sipush 255, 3) := by decide +kernel
theorem d_PS_call_49 : decode prog_1_method_5_code 49 = .ok (.if_icmp .le 11, 3) := by decide +kernel
theorem d_PS_call_52 : decode prog_1_method_5_code 52 = .ok (.new 80, 3) := by decide +kernel
theorem d_PS_call_55 : decode prog_1_method_5_code 55 = .ok (.dup, 1) := by decide +kernel
theorem d_PS_call_56 : decode prog_1_method_5_code 56 = .ok (.invokespecial 82, 3) := by decide +kernel
theorem d_PS_call_59 : decode prog_1_method_5_code 59 = .ok (.athrow, 1) := by decide +kernel
theorem d_PS_call_60 : decode prog_1_method_5_code 60 = .ok (.aload_n 0, 1) := by decide +kernel
theorem d_PS_call_61 : decode prog_1_method_5_code 61 = .ok (.getfield 62, 3) := by decide +kernel
theorem d_PS_call_64 : decode prog_1_method_5_code 64 = .ok (.aload_n 0, 1) := by decide +kernel
theorem d_PS_call_65 : decode prog_1_method_5_code 65 = .ok (.getfield 48, 3) := by decide +kernel
theorem d_PS_call_68 : decode prog_1_method_5_code 68 = .ok (.iload 4, 2) := by decide +kernel
theorem d_PS_call_70 : decode prog_1_method_5_code 70 = .ok (.aload_n 0, 1) := by decide +kernel
theorem d_PS_call_71 : decode prog_1_method_5_code 71 = .ok (.getfield 10, 3) := by decide +kernel
theorem d_PS_call_74 : decode prog_1_method_5_code 74 = .ok (.aload_n 0, 1) := by decide +kernel
theorem d_PS_call_75 : decode prog_1_method_5_code 75 = .ok (.getfield 76, 3) := by decide +kernel
theorem d_PS_call_78 : decode prog_1_method_5_code 78 = .ok (.invokevirtual 117, 3) := by decide +kernel
theorem d_PS_call_81 : decode prog_1_method_5_code 81 = .ok (.aload_n 0, 1) := by decide +kernel
theorem d_PS_call_82 : decode prog_1_method_5_code 82 = .ok (.aload_n 3, 1) := by decide +kernel
theorem d_PS_call_83 : decode prog_1_method_5_code 83 = .ok (.aload_n 0, 1) := by decide +kernel
theorem d_PS_call_84 : decode prog_1_method_5_code 84 = .ok (.getfield 39, 3) := by decide +kernel
theorem d_PS_call_87 : decode prog_1_method_5_code 87 = .ok (.aload_n 3, 1) := by decide +kernel
theorem d_PS_call_88 : decode prog_1_method_5_code 88 = .ok (.invokevirtual 102, 3) := by decide +kernel
theorem d_PS_call_91 : decode prog_1_method_5_code 91 = .ok (.invokevirtual 106, 3) := by decide +kernel
theorem d_PS_call_94 : decode prog_1_method_5_code 94 = .ok (.ireturn, 1) := by decide +kernel
def y_PS_record : MethodName := ⟨"PatchStore", "record", "(II)I"⟩
abbrev c_PS_record : Cond := (Jvm.Cond.code ({ cls := "PatchStore", name := "record", desc := "(II)I" } : Jvm.MethodName) prog_1_method_6_code (5 : Nat) (Option.some Jvm.ClassFile.FieldType.int))
abbrev ws_PS_record : List Cond := c_PS_record :: xg_1
theorem d_PS_record_0 : decode prog_1_method_6_code 0 = .ok (.aload_n 0, 1) := by decide +kernel
theorem d_PS_record_1 : decode prog_1_method_6_code 1 = .ok (.iload_n 1, 1) := by decide +kernel
theorem d_PS_record_2 : decode prog_1_method_6_code 2 = .ok (.invokevirtual 90, 3) := by decide +kernel
theorem d_PS_record_5 : decode prog_1_method_6_code 5 = .ok (.astore_n 3, 1) := by decide +kernel
theorem d_PS_record_6 : decode prog_1_method_6_code 6 = .ok (.aload_n 0, 1) := by decide +kernel
theorem d_PS_record_7 : decode prog_1_method_6_code 7 = .ok (.aload_n 3, 1) := by decide +kernel
theorem d_PS_record_8 : decode prog_1_method_6_code 8 = .ok (.iload_n 2, 1) := by decide +kernel
theorem d_PS_record_9 : decode prog_1_method_6_code 9 = .ok (.invokevirtual 110, 3) := by decide +kernel
theorem d_PS_record_12 : decode prog_1_method_6_code 12 = .ok (.istore 4, 2) := by decide +kernel
theorem d_PS_record_14 : decode prog_1_method_6_code 14 = .ok (.aload_n 0, 1) := by decide +kernel
theorem d_PS_record_15 : decode prog_1_method_6_code 15 = .ok (.getfield 71, 3) := by decide +kernel
theorem d_PS_record_18 : decode prog_1_method_6_code 18 = .ok (.aload_n 0, 1) := by decide +kernel
theorem d_PS_record_19 : decode prog_1_method_6_code 19 = .ok (.getfield 76, 3) := by decide +kernel
theorem d_PS_record_22 : decode prog_1_method_6_code 22 = .ok (.invokevirtual 121, 3) := by decide +kernel
theorem d_PS_record_25 : decode prog_1_method_6_code 25 = .ok (.ifCond .ne 11, 3) := by decide +kernel
theorem d_PS_record_28 : decode prog_1_method_6_code 28 = .ok (.new 87, 3) := by decide +kernel
theorem d_PS_record_31 : decode prog_1_method_6_code 31 = .ok (.dup, 1) := by decide +kernel
theorem d_PS_record_32 : decode prog_1_method_6_code 32 = .ok (.invokespecial 89, 3) := by decide +kernel
theorem d_PS_record_35 : decode prog_1_method_6_code 35 = .ok (.athrow, 1) := by decide +kernel
theorem d_PS_record_36 : decode prog_1_method_6_code 36 = .ok (.aload_n 0, 1) := by decide +kernel
theorem d_PS_record_37 : decode prog_1_method_6_code 37 = .ok (.getfield 55, 3) := by decide +kernel
theorem d_PS_record_40 : decode prog_1_method_6_code 40 = .ok (.aload_n 3, 1) := by decide +kernel
theorem d_PS_record_41 : decode prog_1_method_6_code 41 = .ok (.iload 4, 2) := by decide +kernel
theorem d_PS_record_43 : decode prog_1_method_6_code 43 = .ok (.invokevirtual 125, 3) := by decide +kernel
theorem d_PS_record_46 : decode prog_1_method_6_code 46 = .ok (.aload_n 0, 1) := by decide +kernel
theorem d_PS_record_47 : decode prog_1_method_6_code 47 = .ok (.getfield 55, 3) := by decide +kernel
theorem d_PS_record_50 : decode prog_1_method_6_code 50 = .ok (.getfield 129, 3) := by decide +kernel
theorem d_PS_record_53 : decode prog_1_method_6_code 53 = .ok (.sipush 200, 3) := by decide +kernel
theorem d_PS_record_56 : decode prog_1_method_6_code 56 = .ok (.if_icmp .gt 16, 3) := by decide +kernel
theorem d_PS_record_59 : decode prog_1_method_6_code 59 = .ok (.aload_n 0, 1) := by decide +kernel
theorem d_PS_record_60 : decode prog_1_method_6_code 60 = .ok (.getfield 71, 3) := by decide +kernel
theorem d_PS_record_63 : decode prog_1_method_6_code 63 = .ok (.getfield 132, 3) := by decide +kernel
theorem d_PS_record_66 : decode prog_1_method_6_code 66 = .ok (.sipush 200, 3) := by decide +kernel
theorem d_PS_record_69 : decode prog_1_method_6_code 69 = .ok (.if_icmp .le 11, 3) := by decide +kernel
theorem d_PS_record_72 : decode prog_1_method_6_code 72 = .ok (.new 135, 3) := by decide +kernel
theorem d_PS_record_75 : decode prog_1_method_6_code 75 = .ok (.dup, 1) := by decide +kernel
theorem d_PS_record_76 : decode prog_1_method_6_code 76 = .ok (.invokespecial 137, 3) := by decide +kernel
theorem d_PS_record_79 : decode prog_1_method_6_code 79 = .ok (.athrow, 1) := by decide +kernel
theorem d_PS_record_80 : decode prog_1_method_6_code 80 = .ok (.aload_n 0, 1) := by decide +kernel
theorem d_PS_record_81 : decode prog_1_method_6_code 81 = .ok (.getfield 71, 3) := by decide +kernel
theorem d_PS_record_84 : decode prog_1_method_6_code 84 = .ok (.iload 4, 2) := by decide +kernel
theorem d_PS_record_86 : decode prog_1_method_6_code 86 = .ok (.invokevirtual 138, 3) := by decide +kernel
theorem d_PS_record_89 : decode prog_1_method_6_code 89 = .ok (.ifCond .ne 10, 3) := by decide +kernel
theorem d_PS_record_92 : decode prog_1_method_6_code 92 = .ok (.aload_n 0, 1) := by decide +kernel
theorem d_PS_record_93 : decode prog_1_method_6_code 93 = .ok (.iconst 0, 1) := by decide +kernel
theorem d_PS_record_94 : decode prog_1_method_6_code 94 = .ok (.putfield 76, 3) := by decide +kernel
theorem d_PS_record_97 : decode prog_1_method_6_code 97 = .ok (.iconst (-1), 1) := by decide +kernel
theorem d_PS_record_98 : decode prog_1_method_6_code 98 = .ok (.ireturn, 1) := by decide +kernel
theorem d_PS_record_99 : decode prog_1_method_6_code 99 = .ok (.aload_n 0, 1) := by decide +kernel
theorem d_PS_record_100 : decode prog_1_method_6_code 100 = .ok (.aload_n 3, 1) := by decide +kernel
theorem d_PS_record_101 : decode prog_1_method_6_code 101 = .ok (.aload_n 0, 1) := by decide +kernel
theorem d_PS_record_102 : decode prog_1_method_6_code 102 = .ok (.getfield 39, 3) := by decide +kernel
theorem d_PS_record_105 : decode prog_1_method_6_code 105 = .ok (.aload_n 3, 1) := by decide +kernel
theorem d_PS_record_106 : decode prog_1_method_6_code 106 = .ok (.invokevirtual 102, 3) := by decide +kernel
theorem d_PS_record_109 : decode prog_1_method_6_code 109 = .ok (.invokevirtual 106, 3) := by decide +kernel
theorem d_PS_record_112 : decode prog_1_method_6_code 112 = .ok (.ireturn, 1) := by decide +kernel
def y_PS_file : MethodName := ⟨"PatchStore", "file", "(III)I"⟩
abbrev c_PS_file : Cond := (Jvm.Cond.code ({ cls := "PatchStore", name := "file", desc := "(III)I" } : Jvm.MethodName) prog_1_method_16_code (6 : Nat) (Option.some Jvm.ClassFile.FieldType.int))
abbrev ws_PS_file : List Cond := c_PS_file :: xg_1
theorem d_PS_file_0 : decode prog_1_method_16_code 0 = .ok (.aload_n 0, 1) := by decide +kernel
theorem d_PS_file_1 : decode prog_1_method_16_code 1 = .ok (.iload_n 1, 1) := by decide +kernel
theorem d_PS_file_2 : decode prog_1_method_16_code 2 = .ok (.invokevirtual 90, 3) := by decide +kernel
theorem d_PS_file_5 : decode prog_1_method_16_code 5 = .ok (.astore 4, 2) := by decide +kernel
theorem d_PS_file_7 : decode prog_1_method_16_code 7 = .ok (.aload_n 0, 1) := by decide +kernel
theorem d_PS_file_8 : decode prog_1_method_16_code 8 = .ok (.aload 4, 2) := by decide +kernel
theorem d_PS_file_10 : decode prog_1_method_16_code 10 = .ok (.iload_n 2, 1) := by decide +kernel
theorem d_PS_file_11 : decode prog_1_method_16_code 11 = .ok (.invokevirtual 110, 3) := by decide +kernel
theorem d_PS_file_14 : decode prog_1_method_16_code 14 = .ok (.istore 5, 2) := by decide +kernel
theorem d_PS_file_16 : decode prog_1_method_16_code 16 = .ok (.iload_n 3, 1) := by decide +kernel
theorem d_PS_file_17 : decode prog_1_method_16_code 17 = .ok (.iconst 5, 1) := by decide +kernel
theorem d_PS_file_18 : decode prog_1_method_16_code 18 = .ok (.if_icmp .ne 14, 3) := by decide +kernel
theorem d_PS_file_21 : decode prog_1_method_16_code 21 = .ok (.aload_n 0, 1) := by decide +kernel
theorem d_PS_file_22 : decode prog_1_method_16_code 22 = .ok (.getfield 48, 3) := by decide +kernel
theorem d_PS_file_25 : decode prog_1_method_16_code 25 = .ok (.getfield 113, 3) := by decide +kernel
theorem d_PS_file_28 : decode prog_1_method_16_code 28 = .ok (.iload 5, 2) := by decide +kernel
theorem d_PS_file_30 : decode prog_1_method_16_code 30 = .ok (.iaload, 1) := by decide +kernel
theorem d_PS_file_31 : decode prog_1_method_16_code 31 = .ok (.ireturn, 1) := by decide +kernel
theorem d_PS_file_32 : decode prog_1_method_16_code 32 = .ok (.iload_n 3, 1) := by decide +kernel
theorem d_PS_file_33 : decode prog_1_method_16_code 33 = .ok (.bipush 6, 2) := by decide +kernel
theorem d_PS_file_35 : decode prog_1_method_16_code 35 = .ok (.if_icmp .ne 28, 3) := by decide +kernel
theorem d_PS_file_38 : decode prog_1_method_16_code 38 = .ok (.aload_n 0, 1) := by decide +kernel
theorem d_PS_file_39 : decode prog_1_method_16_code 39 = .ok (.getfield 30, 3) := by decide +kernel
theorem d_PS_file_42 : decode prog_1_method_16_code 42 = .ok (.getfield 224, 3) := by decide +kernel
theorem d_PS_file_45 : decode prog_1_method_16_code 45 = .ok (.getfield 228, 3) := by decide +kernel
theorem d_PS_file_48 : decode prog_1_method_16_code 48 = .ok (.aload_n 0, 1) := by decide +kernel
theorem d_PS_file_49 : decode prog_1_method_16_code 49 = .ok (.getfield 30, 3) := by decide +kernel
theorem d_PS_file_52 : decode prog_1_method_16_code 52 = .ok (.getfield 224, 3) := by decide +kernel
theorem d_PS_file_55 : decode prog_1_method_16_code 55 = .ok (.getfield 233, 3) := by decide +kernel
theorem d_PS_file_58 : decode prog_1_method_16_code 58 = .ok (.iload 5, 2) := by decide +kernel
theorem d_PS_file_60 : decode prog_1_method_16_code 60 = .ok (.iaload, 1) := by decide +kernel
theorem d_PS_file_61 : decode prog_1_method_16_code 61 = .ok (.iaload, 1) := by decide +kernel
theorem d_PS_file_62 : decode prog_1_method_16_code 62 = .ok (.ireturn, 1) := by decide +kernel
theorem d_PS_file_63 : decode prog_1_method_16_code 63 = .ok (.aload_n 0, 1) := by decide +kernel
theorem d_PS_file_64 : decode prog_1_method_16_code 64 = .ok (.getfield 55, 3) := by decide +kernel
theorem d_PS_file_67 : decode prog_1_method_16_code 67 = .ok (.aload 4, 2) := by decide +kernel
theorem d_PS_file_69 : decode prog_1_method_16_code 69 = .ok (.iload 5, 2) := by decide +kernel
theorem d_PS_file_71 : decode prog_1_method_16_code 71 = .ok (.invokevirtual 125, 3) := by decide +kernel
theorem d_PS_file_74 : decode prog_1_method_16_code 74 = .ok (.iload_n 3, 1) := by decide +kernel
theorem d_PS_file_75 : decode prog_1_method_16_code 75 = .ok (.tableswitch 73 0 4 #[33, 41, 49, 57, 65], 33) := by decide +kernel
theorem d_PS_file_108 : decode prog_1_method_16_code 108 = .ok (.aload_n 0, 1) := by decide +kernel
theorem d_PS_file_109 : decode prog_1_method_16_code 109 = .ok (.getfield 55, 3) := by decide +kernel
theorem d_PS_file_112 : decode prog_1_method_16_code 112 = .ok (.getfield 129, 3) := by decide +kernel
theorem d_PS_file_115 : decode prog_1_method_16_code 115 = .ok (.ireturn, 1) := by decide +kernel
theorem d_PS_file_116 : decode prog_1_method_16_code 116 = .ok (.aload_n 0, 1) := by decide +kernel
theorem d_PS_file_117 : decode prog_1_method_16_code 117 = .ok (.getfield 55, 3) := by decide +kernel
theorem d_PS_file_120 : decode prog_1_method_16_code 120 = .ok (.getfield 236, 3) := by decide +kernel
theorem d_PS_file_123 : decode prog_1_method_16_code 123 = .ok (.ireturn, 1) := by decide +kernel
theorem d_PS_file_124 : decode prog_1_method_16_code 124 = .ok (.aload_n 0, 1) := by decide +kernel
theorem d_PS_file_125 : decode prog_1_method_16_code 125 = .ok (.getfield 55, 3) := by decide +kernel
theorem d_PS_file_128 : decode prog_1_method_16_code 128 = .ok (.getfield 237, 3) := by decide +kernel
theorem d_PS_file_131 : decode prog_1_method_16_code 131 = .ok (.ireturn, 1) := by decide +kernel
theorem d_PS_file_132 : decode prog_1_method_16_code 132 = .ok (.aload_n 0, 1) := by decide +kernel
theorem d_PS_file_133 : decode prog_1_method_16_code 133 = .ok (.getfield 55, 3) := by decide +kernel
theorem d_PS_file_136 : decode prog_1_method_16_code 136 = .ok (.getfield 240, 3) := by decide +kernel
theorem d_PS_file_139 : decode prog_1_method_16_code 139 = .ok (.ireturn, 1) := by decide +kernel
theorem d_PS_file_140 : decode prog_1_method_16_code 140 = .ok (.aload_n 0, 1) := by decide +kernel
theorem d_PS_file_141 : decode prog_1_method_16_code 141 = .ok (.getfield 55, 3) := by decide +kernel
theorem d_PS_file_144 : decode prog_1_method_16_code 144 = .ok (.getfield 243, 3) := by decide +kernel
theorem d_PS_file_147 : decode prog_1_method_16_code 147 = .ok (.ireturn, 1) := by decide +kernel
theorem d_PS_file_148 : decode prog_1_method_16_code 148 = .ok (.new 87, 3) := by decide +kernel
theorem d_PS_file_151 : decode prog_1_method_16_code 151 = .ok (.dup, 1) := by decide +kernel
theorem d_PS_file_152 : decode prog_1_method_16_code 152 = .ok (.invokespecial 89, 3) := by decide +kernel
theorem d_PS_file_155 : decode prog_1_method_16_code 155 = .ok (.athrow, 1) := by decide +kernel
def y_PS_name : MethodName := ⟨"PatchStore", "name", "(IIII)I"⟩
abbrev c_PS_name : Cond := (Jvm.Cond.code ({ cls := "PatchStore", name := "name", desc := "(IIII)I" } : Jvm.MethodName) prog_1_method_17_code (8 : Nat) (Option.some Jvm.ClassFile.FieldType.int))
abbrev ws_PS_name : List Cond := c_PS_name :: xg_1
theorem d_PS_name_0 : decode prog_1_method_17_code 0 = .ok (.aload_n 0, 1) := by decide +kernel
theorem d_PS_name_1 : decode prog_1_method_17_code 1 = .ok (.getfield 48, 3) := by decide +kernel
theorem d_PS_name_4 : decode prog_1_method_17_code 4 = .ok (.aload_n 0, 1) := by decide +kernel
theorem d_PS_name_5 : decode prog_1_method_17_code 5 = .ok (.aload_n 0, 1) := by decide +kernel
theorem d_PS_name_6 : decode prog_1_method_17_code 6 = .ok (.iload_n 1, 1) := by decide +kernel
theorem d_PS_name_7 : decode prog_1_method_17_code 7 = .ok (.invokevirtual 90, 3) := by decide +kernel
theorem d_PS_name_10 : decode prog_1_method_17_code 10 = .ok (.iload_n 2, 1) := by decide +kernel
theorem d_PS_name_11 : decode prog_1_method_17_code 11 = .ok (.invokevirtual 110, 3) := by decide +kernel
theorem d_PS_name_14 : decode prog_1_method_17_code 14 = .ok (.iload_n 3, 1) := by decide +kernel
theorem d_PS_name_15 : decode prog_1_method_17_code 15 = .ok (.invokevirtual 246, 3) := by decide +kernel
theorem d_PS_name_18 : decode prog_1_method_17_code 18 = .ok (.istore 5, 2) := by decide +kernel
theorem d_PS_name_20 : decode prog_1_method_17_code 20 = .ok (.iload 5, 2) := by decide +kernel
theorem d_PS_name_22 : decode prog_1_method_17_code 22 = .ok (.iconst (-1), 1) := by decide +kernel
theorem d_PS_name_23 : decode prog_1_method_17_code 23 = .ok (.if_icmp .ne 11, 3) := by decide +kernel
theorem d_PS_name_26 : decode prog_1_method_17_code 26 = .ok (.new 174, 3) := by decide +kernel
theorem d_PS_name_29 : decode prog_1_method_17_code 29 = .ok (.dup, 1) := by decide +kernel
theorem d_PS_name_30 : decode prog_1_method_17_code 30 = .ok (.invokespecial 176, 3) := by decide +kernel
theorem d_PS_name_33 : decode prog_1_method_17_code 33 = .ok (.athrow, 1) := by decide +kernel
theorem d_PS_name_34 : decode prog_1_method_17_code 34 = .ok (.aload_n 0, 1) := by decide +kernel
theorem d_PS_name_35 : decode prog_1_method_17_code 35 = .ok (.getfield 30, 3) := by decide +kernel
theorem d_PS_name_38 : decode prog_1_method_17_code 38 = .ok (.iload 5, 2) := by decide +kernel
theorem d_PS_name_40 : decode prog_1_method_17_code 40 = .ok (.invokevirtual 250, 3) := by decide +kernel
theorem d_PS_name_43 : decode prog_1_method_17_code 43 = .ok (.istore 6, 2) := by decide +kernel
theorem d_PS_name_45 : decode prog_1_method_17_code 45 = .ok (.aload_n 0, 1) := by decide +kernel
theorem d_PS_name_46 : decode prog_1_method_17_code 46 = .ok (.getfield 30, 3) := by decide +kernel
theorem d_PS_name_49 : decode prog_1_method_17_code 49 = .ok (.getfield 154, 3) := by decide +kernel
theorem d_PS_name_52 : decode prog_1_method_17_code 52 = .ok (.iload 6, 2) := by decide +kernel
theorem d_PS_name_54 : decode prog_1_method_17_code 54 = .ok (.baload, 1) := by decide +kernel
theorem d_PS_name_55 : decode prog_1_method_17_code 55 = .ok (.istore 7, 2) := by decide +kernel
theorem d_PS_name_57 : decode prog_1_method_17_code 57 = .ok (.iload 4, 2) := by decide +kernel
theorem d_PS_name_59 : decode prog_1_method_17_code 59 = .ok (.iconst (-1), 1) := by decide +kernel
theorem d_PS_name_60 : decode prog_1_method_17_code 60 = .ok (.if_icmp .lt 10, 3) := by decide +kernel
theorem d_PS_name_63 : decode prog_1_method_17_code 63 = .ok (.iload 4, 2) := by decide +kernel
theorem d_PS_name_65 : decode prog_1_method_17_code 65 = .ok (.iload 7, 2) := by decide +kernel
theorem d_PS_name_67 : decode prog_1_method_17_code 67 = .ok (.if_icmp .lt 11, 3) := by decide +kernel
theorem d_PS_name_70 : decode prog_1_method_17_code 70 = .ok (.new 253, 3) := by decide +kernel
theorem d_PS_name_73 : decode prog_1_method_17_code 73 = .ok (.dup, 1) := by decide +kernel
theorem d_PS_name_74 : decode prog_1_method_17_code 74 = .ok (.invokespecial 255, 3) := by decide +kernel
theorem d_PS_name_77 : decode prog_1_method_17_code 77 = .ok (.athrow, 1) := by decide +kernel
theorem d_PS_name_78 : decode prog_1_method_17_code 78 = .ok (.aload_n 0, 1) := by decide +kernel
theorem d_PS_name_79 : decode prog_1_method_17_code 79 = .ok (.getfield 30, 3) := by decide +kernel
theorem d_PS_name_82 : decode prog_1_method_17_code 82 = .ok (.getfield 154, 3) := by decide +kernel
theorem d_PS_name_85 : decode prog_1_method_17_code 85 = .ok (.iload 6, 2) := by decide +kernel
theorem d_PS_name_87 : decode prog_1_method_17_code 87 = .ok (.iconst 1, 1) := by decide +kernel
theorem d_PS_name_88 : decode prog_1_method_17_code 88 = .ok (.iadd, 1) := by decide +kernel
theorem d_PS_name_89 : decode prog_1_method_17_code 89 = .ok (.iload 4, 2) := by decide +kernel
theorem d_PS_name_91 : decode prog_1_method_17_code 91 = .ok (.iadd, 1) := by decide +kernel
theorem d_PS_name_92 : decode prog_1_method_17_code 92 = .ok (.baload, 1) := by decide +kernel
theorem d_PS_name_93 : decode prog_1_method_17_code 93 = .ok (.ireturn, 1) := by decide +kernel
def y_PS_line : MethodName := ⟨"PatchStore", "line", "(IIII)I"⟩
abbrev c_PS_line : Cond := (Jvm.Cond.code ({ cls := "PatchStore", name := "line", desc := "(IIII)I" } : Jvm.MethodName) prog_1_method_18_code (7 : Nat) (Option.some Jvm.ClassFile.FieldType.int))
abbrev ws_PS_line : List Cond := c_PS_line :: xg_1
theorem d_PS_line_0 : decode prog_1_method_18_code 0 = .ok (.aload_n 0, 1) := by decide +kernel
theorem d_PS_line_1 : decode prog_1_method_18_code 1 = .ok (.iload_n 1, 1) := by decide +kernel
theorem d_PS_line_2 : decode prog_1_method_18_code 2 = .ok (.invokevirtual 90, 3) := by decide +kernel
theorem d_PS_line_5 : decode prog_1_method_18_code 5 = .ok (.astore 5, 2) := by decide +kernel
theorem d_PS_line_7 : decode prog_1_method_18_code 7 = .ok (.aload_n 0, 1) := by decide +kernel
theorem d_PS_line_8 : decode prog_1_method_18_code 8 = .ok (.getfield 55, 3) := by decide +kernel
theorem d_PS_line_11 : decode prog_1_method_18_code 11 = .ok (.aload 5, 2) := by decide +kernel
theorem d_PS_line_13 : decode prog_1_method_18_code 13 = .ok (.aload_n 0, 1) := by decide +kernel
theorem d_PS_line_14 : decode prog_1_method_18_code 14 = .ok (.aload 5, 2) := by decide +kernel
theorem d_PS_line_16 : decode prog_1_method_18_code 16 = .ok (.iload_n 2, 1) := by decide +kernel
theorem d_PS_line_17 : decode prog_1_method_18_code 17 = .ok (.invokevirtual 110, 3) := by decide +kernel
theorem d_PS_line_20 : decode prog_1_method_18_code 20 = .ok (.invokevirtual 125, 3) := by decide +kernel
theorem d_PS_line_23 : decode prog_1_method_18_code 23 = .ok (.iload_n 3, 1) := by decide +kernel
theorem d_PS_line_24 : decode prog_1_method_18_code 24 = .ok (.ifCond .lt 14, 3) := by decide +kernel
theorem d_PS_line_27 : decode prog_1_method_18_code 27 = .ok (.iload_n 3, 1) := by decide +kernel
theorem d_PS_line_28 : decode prog_1_method_18_code 28 = .ok (.aload_n 0, 1) := by decide +kernel
theorem d_PS_line_29 : decode prog_1_method_18_code 29 = .ok (.getfield 55, 3) := by decide +kernel
theorem d_PS_line_32 : decode prog_1_method_18_code 32 = .ok (.getfield 129, 3) := by decide +kernel
theorem d_PS_line_35 : decode prog_1_method_18_code 35 = .ok (.if_icmp .lt 11, 3) := by decide +kernel
theorem d_PS_line_38 : decode prog_1_method_18_code 38 = .ok (.new 174, 3) := by decide +kernel
theorem d_PS_line_41 : decode prog_1_method_18_code 41 = .ok (.dup, 1) := by decide +kernel
theorem d_PS_line_42 : decode prog_1_method_18_code 42 = .ok (.invokespecial 176, 3) := by decide +kernel
theorem d_PS_line_45 : decode prog_1_method_18_code 45 = .ok (.athrow, 1) := by decide +kernel
theorem d_PS_line_46 : decode prog_1_method_18_code 46 = .ok (.aload_n 0, 1) := by decide +kernel
theorem d_PS_line_47 : decode prog_1_method_18_code 47 = .ok (.getfield 55, 3) := by decide +kernel
theorem d_PS_line_50 : decode prog_1_method_18_code 50 = .ok (.getfield 256, 3) := by decide +kernel
theorem d_PS_line_53 : decode prog_1_method_18_code 53 = .ok (.iload_n 3, 1) := by decide +kernel
theorem d_PS_line_54 : decode prog_1_method_18_code 54 = .ok (.iaload, 1) := by decide +kernel
theorem d_PS_line_55 : decode prog_1_method_18_code 55 = .ok (.istore 6, 2) := by decide +kernel
theorem d_PS_line_57 : decode prog_1_method_18_code 57 = .ok (.iload 4, 2) := by decide +kernel
theorem d_PS_line_59 : decode prog_1_method_18_code 59 = .ok (.bipush (-4), 2) := by decide +kernel
theorem d_PS_line_61 : decode prog_1_method_18_code 61 = .ok (.if_icmp .lt 21, 3) := by decide +kernel
theorem d_PS_line_64 : decode prog_1_method_18_code 64 = .ok (.iload 4, 2) := by decide +kernel
theorem d_PS_line_66 : decode prog_1_method_18_code 66 = .ok (.aload_n 0, 1) := by decide +kernel
theorem d_PS_line_67 : decode prog_1_method_18_code 67 = .ok (.getfield 30, 3) := by decide +kernel
theorem d_PS_line_70 : decode prog_1_method_18_code 70 = .ok (.getfield 259, 3) := by decide +kernel
theorem d_PS_line_73 : decode prog_1_method_18_code 73 = .ok (.getfield 263, 3) := by decide +kernel
theorem d_PS_line_76 : decode prog_1_method_18_code 76 = .ok (.iload 6, 2) := by decide +kernel
theorem d_PS_line_78 : decode prog_1_method_18_code 78 = .ok (.iaload, 1) := by decide +kernel
theorem d_PS_line_79 : decode prog_1_method_18_code 79 = .ok (.if_icmp .lt 11, 3) := by decide +kernel
theorem d_PS_line_82 : decode prog_1_method_18_code 82 = .ok (.new 253, 3) := by decide +kernel
theorem d_PS_line_85 : decode prog_1_method_18_code 85 = .ok (.dup, 1) := by decide +kernel
theorem d_PS_line_86 : decode prog_1_method_18_code 86 = .ok (.invokespecial 255, 3) := by decide +kernel
theorem d_PS_line_89 : decode prog_1_method_18_code 89 = .ok (.athrow, 1) := by decide +kernel
theorem d_PS_line_90 : decode prog_1_method_18_code 90 = .ok (.iload 4, 2) := by decide +kernel
theorem d_PS_line_92 : decode prog_1_method_18_code 92 = .ok (.ifCond .ge 17, 3) := by decide +kernel
theorem d_PS_line_95 : decode prog_1_method_18_code 95 = .ok (.aload_n 0, 1) := by decide +kernel
theorem d_PS_line_96 : decode prog_1_method_18_code 96 = .ok (.getfield 30, 3) := by decide +kernel
theorem d_PS_line_99 : decode prog_1_method_18_code 99 = .ok (.iload 6, 2) := by decide +kernel
theorem d_PS_line_101 : decode prog_1_method_18_code 101 = .ok (.iload 4, 2) := by decide +kernel
theorem d_PS_line_103 : decode prog_1_method_18_code 103 = .ok (.invokevirtual 267, 3) := by decide +kernel
theorem d_PS_line_106 : decode prog_1_method_18_code 106 = .ok (.goto 31, 3) := by decide +kernel
theorem d_PS_line_109 : decode prog_1_method_18_code 109 = .ok (.aload_n 0, 1) := by decide +kernel
theorem d_PS_line_110 : decode prog_1_method_18_code 110 = .ok (.getfield 30, 3) := by decide +kernel
theorem d_PS_line_113 : decode prog_1_method_18_code 113 = .ok (.getfield 154, 3) := by decide +kernel
theorem d_PS_line_116 : decode prog_1_method_18_code 116 = .ok (.aload_n 0, 1) := by decide +kernel
theorem d_PS_line_117 : decode prog_1_method_18_code 117 = .ok (.getfield 30, 3) := by decide +kernel
theorem d_PS_line_120 : decode prog_1_method_18_code 120 = .ok (.getfield 259, 3) := by decide +kernel
theorem d_PS_line_123 : decode prog_1_method_18_code 123 = .ok (.getfield 270, 3) := by decide +kernel
theorem d_PS_line_126 : decode prog_1_method_18_code 126 = .ok (.iload 6, 2) := by decide +kernel
theorem d_PS_line_128 : decode prog_1_method_18_code 128 = .ok (.iaload, 1) := by decide +kernel
theorem d_PS_line_129 : decode prog_1_method_18_code 129 = .ok (.iload 4, 2) := by decide +kernel
theorem d_PS_line_131 : decode prog_1_method_18_code 131 = .ok (.iadd, 1) := by decide +kernel
theorem d_PS_line_132 : decode prog_1_method_18_code 132 = .ok (.baload, 1) := by decide +kernel
theorem d_PS_line_133 : decode prog_1_method_18_code 133 = .ok (.sipush 255, 3) := by decide +kernel
theorem d_PS_line_136 : decode prog_1_method_18_code 136 = .ok (.iand, 1) := by decide +kernel
theorem d_PS_line_137 : decode prog_1_method_18_code 137 = .ok (.ireturn, 1) := by decide +kernel
def y_PS_show : MethodName := ⟨"PatchStore", "show", "(I)I"⟩
abbrev c_PS_show : Cond := (Jvm.Cond.code ({ cls := "PatchStore", name := "show", desc := "(I)I" } : Jvm.MethodName) prog_1_method_9_code (3 : Nat) (Option.some Jvm.ClassFile.FieldType.int))
abbrev ws_PS_show : List Cond := c_PS_show :: xg_1
theorem d_PS_show_0 : decode prog_1_method_9_code 0 = .ok (.aload_n 0, 1) := by decide +kernel
theorem d_PS_show_1 : decode prog_1_method_9_code 1 = .ok (.iload_n 1, 1) := by decide +kernel
theorem d_PS_show_2 : decode prog_1_method_9_code 2 = .ok (.invokevirtual 148, 3) := by decide +kernel
theorem d_PS_show_5 : decode prog_1_method_9_code 5 = .ok (.aload_n 0, 1) := by decide +kernel
theorem d_PS_show_6 : decode prog_1_method_9_code 6 = .ok (.getfield 30, 3) := by decide +kernel
theorem d_PS_show_9 : decode prog_1_method_9_code 9 = .ok (.getfield 151, 3) := by decide +kernel
theorem d_PS_show_12 : decode prog_1_method_9_code 12 = .ok (.iload_n 1, 1) := by decide +kernel
theorem d_PS_show_13 : decode prog_1_method_9_code 13 = .ok (.iconst 1, 1) := by decide +kernel
theorem d_PS_show_14 : decode prog_1_method_9_code 14 = .ok (.iadd, 1) := by decide +kernel
theorem d_PS_show_15 : decode prog_1_method_9_code 15 = .ok (.iaload, 1) := by decide +kernel
theorem d_PS_show_16 : decode prog_1_method_9_code 16 = .ok (.aload_n 0, 1) := by decide +kernel
theorem d_PS_show_17 : decode prog_1_method_9_code 17 = .ok (.getfield 30, 3) := by decide +kernel
theorem d_PS_show_20 : decode prog_1_method_9_code 20 = .ok (.getfield 151, 3) := by decide +kernel
theorem d_PS_show_23 : decode prog_1_method_9_code 23 = .ok (.iload_n 1, 1) := by decide +kernel
theorem d_PS_show_24 : decode prog_1_method_9_code 24 = .ok (.iaload, 1) := by decide +kernel
theorem d_PS_show_25 : decode prog_1_method_9_code 25 = .ok (.isub, 1) := by decide +kernel
theorem d_PS_show_26 : decode prog_1_method_9_code 26 = .ok (.istore_n 2, 1) := by decide +kernel
theorem d_PS_show_27 : decode prog_1_method_9_code 27 = .ok (.iload_n 2, 1) := by decide +kernel
theorem d_PS_show_28 : decode prog_1_method_9_code 28 = .ok (.ldc 9, 2) := by decide +kernel
theorem d_PS_show_30 : decode prog_1_method_9_code 30 = .ok (.if_icmp .le 11, 3) := by decide +kernel
theorem d_PS_show_33 : decode prog_1_method_9_code 33 = .ok (.new 135, 3) := by decide +kernel
theorem d_PS_show_36 : decode prog_1_method_9_code 36 = .ok (.dup, 1) := by decide +kernel
theorem d_PS_show_37 : decode prog_1_method_9_code 37 = .ok (.invokespecial 137, 3) := by decide +kernel
theorem d_PS_show_40 : decode prog_1_method_9_code 40 = .ok (.athrow, 1) := by decide +kernel
theorem d_PS_show_41 : decode prog_1_method_9_code 41 = .ok (.aload_n 0, 1) := by decide +kernel
theorem d_PS_show_42 : decode prog_1_method_9_code 42 = .ok (.getfield 30, 3) := by decide +kernel
theorem d_PS_show_45 : decode prog_1_method_9_code 45 = .ok (.getfield 154, 3) := by decide +kernel
theorem d_PS_show_48 : decode prog_1_method_9_code 48 = .ok (.aload_n 0, 1) := by decide +kernel
theorem d_PS_show_49 : decode prog_1_method_9_code 49 = .ok (.getfield 30, 3) := by decide +kernel
theorem d_PS_show_52 : decode prog_1_method_9_code 52 = .ok (.getfield 151, 3) := by decide +kernel
theorem d_PS_show_55 : decode prog_1_method_9_code 55 = .ok (.iload_n 1, 1) := by decide +kernel
theorem d_PS_show_56 : decode prog_1_method_9_code 56 = .ok (.iaload, 1) := by decide +kernel
theorem d_PS_show_57 : decode prog_1_method_9_code 57 = .ok (.aload_n 0, 1) := by decide +kernel
theorem d_PS_show_58 : decode prog_1_method_9_code 58 = .ok (.getfield 10, 3) := by decide +kernel
theorem d_PS_show_61 : decode prog_1_method_9_code 61 = .ok (.iconst 0, 1) := by decide +kernel
theorem d_PS_show_62 : decode prog_1_method_9_code 62 = .ok (.iload_n 2, 1) := by decide +kernel
theorem d_PS_show_63 : decode prog_1_method_9_code 63 = .ok (.invokestatic 157, 3) := by decide +kernel
theorem d_PS_show_66 : decode prog_1_method_9_code 66 = .ok (.aload_n 0, 1) := by decide +kernel
theorem d_PS_show_67 : decode prog_1_method_9_code 67 = .ok (.iload_n 2, 1) := by decide +kernel
theorem d_PS_show_68 : decode prog_1_method_9_code 68 = .ok (.putfield 76, 3) := by decide +kernel
theorem d_PS_show_71 : decode prog_1_method_9_code 71 = .ok (.iload_n 2, 1) := by decide +kernel
theorem d_PS_show_72 : decode prog_1_method_9_code 72 = .ok (.ireturn, 1) := by decide +kernel
def y_PS_hash : MethodName := ⟨"PatchStore", "hash", "(II)I"⟩
abbrev c_PS_hash : Cond := (Jvm.Cond.code ({ cls := "PatchStore", name := "hash", desc := "(II)I" } : Jvm.MethodName) prog_1_method_13_code (3 : Nat) (Option.some Jvm.ClassFile.FieldType.int))
abbrev ws_PS_hash : List Cond := c_PS_hash :: xg_1
theorem d_PS_hash_0 : decode prog_1_method_13_code 0 = .ok (.aload_n 0, 1) := by decide +kernel
theorem d_PS_hash_1 : decode prog_1_method_13_code 1 = .ok (.iload_n 1, 1) := by decide +kernel
theorem d_PS_hash_2 : decode prog_1_method_13_code 2 = .ok (.invokevirtual 148, 3) := by decide +kernel
theorem d_PS_hash_5 : decode prog_1_method_13_code 5 = .ok (.aload_n 0, 1) := by decide +kernel
theorem d_PS_hash_6 : decode prog_1_method_13_code 6 = .ok (.iload_n 2, 1) := by decide +kernel
theorem d_PS_hash_7 : decode prog_1_method_13_code 7 = .ok (.invokevirtual 199, 3) := by decide +kernel
theorem d_PS_hash_10 : decode prog_1_method_13_code 10 = .ok (.aload_n 0, 1) := by decide +kernel
theorem d_PS_hash_11 : decode prog_1_method_13_code 11 = .ok (.getfield 30, 3) := by decide +kernel
theorem d_PS_hash_14 : decode prog_1_method_13_code 14 = .ok (.getfield 202, 3) := by decide +kernel
theorem d_PS_hash_17 : decode prog_1_method_13_code 17 = .ok (.iload_n 1, 1) := by decide +kernel
theorem d_PS_hash_18 : decode prog_1_method_13_code 18 = .ok (.bipush 32, 2) := by decide +kernel
theorem d_PS_hash_20 : decode prog_1_method_13_code 20 = .ok (.imul, 1) := by decide +kernel
theorem d_PS_hash_21 : decode prog_1_method_13_code 21 = .ok (.iload_n 2, 1) := by decide +kernel
theorem d_PS_hash_22 : decode prog_1_method_13_code 22 = .ok (.iadd, 1) := by decide +kernel
theorem d_PS_hash_23 : decode prog_1_method_13_code 23 = .ok (.baload, 1) := by decide +kernel
theorem d_PS_hash_24 : decode prog_1_method_13_code 24 = .ok (.sipush 255, 3) := by decide +kernel
theorem d_PS_hash_27 : decode prog_1_method_13_code 27 = .ok (.iand, 1) := by decide +kernel
theorem d_PS_hash_28 : decode prog_1_method_13_code 28 = .ok (.ireturn, 1) := by decide +kernel
def y_PS_has : MethodName := ⟨"PatchStore", "has", "(III)I"⟩
abbrev c_PS_has : Cond := (Jvm.Cond.code ({ cls := "PatchStore", name := "has", desc := "(III)I" } : Jvm.MethodName) prog_1_method_12_code (5 : Nat) (Option.some Jvm.ClassFile.FieldType.int))
abbrev ws_PS_has : List Cond := c_PS_has :: xg_1
theorem d_PS_has_0 : decode prog_1_method_12_code 0 = .ok (.aload_n 0, 1) := by decide +kernel
theorem d_PS_has_1 : decode prog_1_method_12_code 1 = .ok (.iload_n 1, 1) := by decide +kernel
theorem d_PS_has_2 : decode prog_1_method_12_code 2 = .ok (.invokevirtual 90, 3) := by decide +kernel
theorem d_PS_has_5 : decode prog_1_method_12_code 5 = .ok (.astore 4, 2) := by decide +kernel
theorem d_PS_has_7 : decode prog_1_method_12_code 7 = .ok (.aload_n 0, 1) := by decide +kernel
theorem d_PS_has_8 : decode prog_1_method_12_code 8 = .ok (.iload_n 2, 1) := by decide +kernel
theorem d_PS_has_9 : decode prog_1_method_12_code 9 = .ok (.invokevirtual 148, 3) := by decide +kernel
theorem d_PS_has_12 : decode prog_1_method_12_code 12 = .ok (.iload_n 3, 1) := by decide +kernel
theorem d_PS_has_13 : decode prog_1_method_12_code 13 = .ok (.tableswitch 65 0 2 #[27, 42, 56], 27) := by decide +kernel
theorem d_PS_has_40 : decode prog_1_method_12_code 40 = .ok (.aload 4, 2) := by decide +kernel
theorem d_PS_has_42 : decode prog_1_method_12_code 42 = .ok (.iload_n 2, 1) := by decide +kernel
theorem d_PS_has_43 : decode prog_1_method_12_code 43 = .ok (.invokevirtual 171, 3) := by decide +kernel
theorem d_PS_has_46 : decode prog_1_method_12_code 46 = .ok (.ifCond .eq 7, 3) := by decide +kernel
theorem d_PS_has_49 : decode prog_1_method_12_code 49 = .ok (.iconst 1, 1) := by decide +kernel
theorem d_PS_has_50 : decode prog_1_method_12_code 50 = .ok (.goto 4, 3) := by decide +kernel
theorem d_PS_has_53 : decode prog_1_method_12_code 53 = .ok (.iconst 0, 1) := by decide +kernel
theorem d_PS_has_54 : decode prog_1_method_12_code 54 = .ok (.ireturn, 1) := by decide +kernel
theorem d_PS_has_55 : decode prog_1_method_12_code 55 = .ok (.aload 4, 2) := by decide +kernel
theorem d_PS_has_57 : decode prog_1_method_12_code 57 = .ok (.aload_n 0, 1) := by decide +kernel
theorem d_PS_has_58 : decode prog_1_method_12_code 58 = .ok (.getfield 30, 3) := by decide +kernel
theorem d_PS_has_61 : decode prog_1_method_12_code 61 = .ok (.getfield 184, 3) := by decide +kernel
theorem d_PS_has_64 : decode prog_1_method_12_code 64 = .ok (.iload_n 2, 1) := by decide +kernel
theorem d_PS_has_65 : decode prog_1_method_12_code 65 = .ok (.invokevirtual 187, 3) := by decide +kernel
theorem d_PS_has_68 : decode prog_1_method_12_code 68 = .ok (.ireturn, 1) := by decide +kernel
theorem d_PS_has_69 : decode prog_1_method_12_code 69 = .ok (.aload_n 0, 1) := by decide +kernel
theorem d_PS_has_70 : decode prog_1_method_12_code 70 = .ok (.getfield 30, 3) := by decide +kernel
theorem d_PS_has_73 : decode prog_1_method_12_code 73 = .ok (.iload_n 2, 1) := by decide +kernel
theorem d_PS_has_74 : decode prog_1_method_12_code 74 = .ok (.invokevirtual 196, 3) := by decide +kernel
theorem d_PS_has_77 : decode prog_1_method_12_code 77 = .ok (.ireturn, 1) := by decide +kernel
theorem d_PS_has_78 : decode prog_1_method_12_code 78 = .ok (.new 87, 3) := by decide +kernel
theorem d_PS_has_81 : decode prog_1_method_12_code 81 = .ok (.dup, 1) := by decide +kernel
theorem d_PS_has_82 : decode prog_1_method_12_code 82 = .ok (.invokespecial 89, 3) := by decide +kernel
theorem d_PS_has_85 : decode prog_1_method_12_code 85 = .ok (.athrow, 1) := by decide +kernel
end
section
/-! 27.ops1.lean.txt -/
theorem gw_532 : (Jvm.Cond.fieldLink "PatchStore" (193 : Nat) "PatchStore$Repository" "size" "I") ∈ xg_1 := xg_s3 52 rfl rfl
theorem gw_826 : (Jvm.Cond.instanceMethod ({ cls := "PatchStore$Repository", name := "holds", desc := "(I)Z" } : Jvm.MethodName)) ∈ xg_1 := xg_s4 106 rfl rfl
theorem gw_827 : (Jvm.Cond.selects "PatchStore$Repository" ({ cls := "PatchStore$Repository", name := "holds", desc := "(I)Z" } : Jvm.MethodName) ({ cls := "PatchStore$Repository", name := "holds", desc := "(I)Z" } : Jvm.MethodName)) ∈ xg_1 := xg_s4 107 rfl rfl
theorem gw_828 : (Jvm.Cond.code ({ cls := "PatchStore$Repository", name := "holds", desc := "(I)Z" } : Jvm.MethodName) prog_8_method_2_code (2 : Nat) (Option.some Jvm.ClassFile.FieldType.boolean)) ∈ xg_1 := xg_s4 108 rfl rfl
theorem gw_1240 : (Jvm.Cond.methodLink "PatchStore" (171 : Nat) ({ cls := "PatchStore$Repository", name := "holds", desc := "(I)Z" } : Jvm.MethodName)) ∈ xg_1 := xg_s6 40 rfl rfl
theorem gw_1316 : (Jvm.Cond.methodLink "PatchStore" (217 : Nat) ({ cls := "PatchStore$View", name := "countManyNamed", desc := "()I" } : Jvm.MethodName)) ∈ xg_1 := xg_s6 116 rfl rfl
theorem gw_1317 : (Jvm.Cond.instanceMethod ({ cls := "PatchStore$View", name := "countManyNamed", desc := "()I" } : Jvm.MethodName)) ∈ xg_1 := xg_s6 117 rfl rfl
theorem gw_1318 : (Jvm.Cond.selects "PatchStore$View" ({ cls := "PatchStore$View", name := "countManyNamed", desc := "()I" } : Jvm.MethodName) ({ cls := "PatchStore$View", name := "countManyNamed", desc := "()I" } : Jvm.MethodName)) ∈ xg_1 := xg_s6 118 rfl rfl
theorem gw_1319 : (Jvm.Cond.code ({ cls := "PatchStore$View", name := "countManyNamed", desc := "()I" } : Jvm.MethodName) prog_12_method_7_code (3 : Nat) (Option.some Jvm.ClassFile.FieldType.int)) ∈ xg_1 := xg_s6 119 rfl rfl
theorem gw_1320 : (Jvm.Cond.methodLink "PatchStore" (221 : Nat) ({ cls := "PatchStore$View", name := "countSharing", desc := "()I" } : Jvm.MethodName)) ∈ xg_1 := xg_s6 120 rfl rfl
theorem gw_1321 : (Jvm.Cond.instanceMethod ({ cls := "PatchStore$View", name := "countSharing", desc := "()I" } : Jvm.MethodName)) ∈ xg_1 := xg_s6 121 rfl rfl
theorem gw_1322 : (Jvm.Cond.selects "PatchStore$View" ({ cls := "PatchStore$View", name := "countSharing", desc := "()I" } : Jvm.MethodName) ({ cls := "PatchStore$View", name := "countSharing", desc := "()I" } : Jvm.MethodName)) ∈ xg_1 := xg_s6 122 rfl rfl
theorem gw_1323 : (Jvm.Cond.code ({ cls := "PatchStore$View", name := "countSharing", desc := "()I" } : Jvm.MethodName) prog_12_method_8_code (3 : Nat) (Option.some Jvm.ClassFile.FieldType.int)) ∈ xg_1 := xg_s6 123 rfl rfl
def y_Re_holds : MethodName := ⟨"PatchStore$Repository", "holds", "(I)Z"⟩
abbrev c_Re_holds : Cond := (Jvm.Cond.code ({ cls := "PatchStore$Repository", name := "holds", desc := "(I)Z" } : Jvm.MethodName) prog_8_method_2_code (2 : Nat) (Option.some Jvm.ClassFile.FieldType.boolean))
abbrev ws_Re_holds : List Cond := c_Re_holds :: xg_1
theorem d_Re_holds_0 : decode prog_8_method_2_code 0 = .ok (.iload_n 1, 1) := by decide +kernel
theorem d_Re_holds_1 : decode prog_8_method_2_code 1 = .ok (.ifCond .lt 35, 3) := by decide +kernel
theorem d_Re_holds_4 : decode prog_8_method_2_code 4 = .ok (.iload_n 1, 1) := by decide +kernel
theorem d_Re_holds_5 : decode prog_8_method_2_code 5 = .ok (.sipush 500, 3) := by decide +kernel
theorem d_Re_holds_8 : decode prog_8_method_2_code 8 = .ok (.if_icmp .ge 28, 3) := by decide +kernel
theorem d_Re_holds_11 : decode prog_8_method_2_code 11 = .ok (.aload_n 0, 1) := by decide +kernel
theorem d_Re_holds_12 : decode prog_8_method_2_code 12 = .ok (.getfield 9, 3) := by decide +kernel
theorem d_Re_holds_15 : decode prog_8_method_2_code 15 = .ok (.iload_n 1, 1) := by decide +kernel
theorem d_Re_holds_16 : decode prog_8_method_2_code 16 = .ok (.bipush 6, 2) := by decide +kernel
theorem d_Re_holds_18 : decode prog_8_method_2_code 18 = .ok (.ishr, 1) := by decide +kernel
theorem d_Re_holds_19 : decode prog_8_method_2_code 19 = .ok (.laload, 1) := by decide +kernel
theorem d_Re_holds_20 : decode prog_8_method_2_code 20 = .ok (.iload_n 1, 1) := by decide +kernel
theorem d_Re_holds_21 : decode prog_8_method_2_code 21 = .ok (.bipush 63, 2) := by decide +kernel
theorem d_Re_holds_23 : decode prog_8_method_2_code 23 = .ok (.iand, 1) := by decide +kernel
theorem d_Re_holds_24 : decode prog_8_method_2_code 24 = .ok (.lshr, 1) := by decide +kernel
theorem d_Re_holds_25 : decode prog_8_method_2_code 25 = .ok (.lconst 1, 1) := by decide +kernel
theorem d_Re_holds_26 : decode prog_8_method_2_code 26 = .ok (.land, 1) := by decide +kernel
theorem d_Re_holds_27 : decode prog_8_method_2_code 27 = .ok (.lconst 0, 1) := by decide +kernel
theorem d_Re_holds_28 : decode prog_8_method_2_code 28 = .ok (.lcmp, 1) := by decide +kernel
theorem d_Re_holds_29 : decode prog_8_method_2_code 29 = .ok (.ifCond .eq 7, 3) := by decide +kernel
theorem d_Re_holds_32 : decode prog_8_method_2_code 32 = .ok (.iconst 1, 1) := by decide +kernel
theorem d_Re_holds_33 : decode prog_8_method_2_code 33 = .ok (.goto 4, 3) := by decide +kernel
theorem d_Re_holds_36 : decode prog_8_method_2_code 36 = .ok (.iconst 0, 1) := by decide +kernel
theorem d_Re_holds_37 : decode prog_8_method_2_code 37 = .ok (.ireturn, 1) := by decide +kernel
def y_PS_drop : MethodName := ⟨"PatchStore", "drop", "(II)I"⟩
abbrev c_PS_drop : Cond := (Jvm.Cond.code ({ cls := "PatchStore", name := "drop", desc := "(II)I" } : Jvm.MethodName) prog_1_method_11_code (4 : Nat) (Option.some Jvm.ClassFile.FieldType.int))
abbrev ws_PS_drop : List Cond := c_PS_drop :: xg_1
theorem d_PS_drop_0 : decode prog_1_method_11_code 0 = .ok (.aload_n 0, 1) := by decide +kernel
theorem d_PS_drop_1 : decode prog_1_method_11_code 1 = .ok (.iload_n 1, 1) := by decide +kernel
theorem d_PS_drop_2 : decode prog_1_method_11_code 2 = .ok (.invokevirtual 90, 3) := by decide +kernel
theorem d_PS_drop_5 : decode prog_1_method_11_code 5 = .ok (.astore_n 3, 1) := by decide +kernel
theorem d_PS_drop_6 : decode prog_1_method_11_code 6 = .ok (.aload_n 3, 1) := by decide +kernel
theorem d_PS_drop_7 : decode prog_1_method_11_code 7 = .ok (.iload_n 2, 1) := by decide +kernel
theorem d_PS_drop_8 : decode prog_1_method_11_code 8 = .ok (.invokevirtual 171, 3) := by decide +kernel
theorem d_PS_drop_11 : decode prog_1_method_11_code 11 = .ok (.ifCond .ne 11, 3) := by decide +kernel
theorem d_PS_drop_14 : decode prog_1_method_11_code 14 = .ok (.new 174, 3) := by decide +kernel
theorem d_PS_drop_17 : decode prog_1_method_11_code 17 = .ok (.dup, 1) := by decide +kernel
theorem d_PS_drop_18 : decode prog_1_method_11_code 18 = .ok (.invokespecial 176, 3) := by decide +kernel
theorem d_PS_drop_21 : decode prog_1_method_11_code 21 = .ok (.athrow, 1) := by decide +kernel
theorem d_PS_drop_22 : decode prog_1_method_11_code 22 = .ok (.aload_n 3, 1) := by decide +kernel
theorem d_PS_drop_23 : decode prog_1_method_11_code 23 = .ok (.aload_n 0, 1) := by decide +kernel
theorem d_PS_drop_24 : decode prog_1_method_11_code 24 = .ok (.getfield 30, 3) := by decide +kernel
theorem d_PS_drop_27 : decode prog_1_method_11_code 27 = .ok (.getfield 184, 3) := by decide +kernel
theorem d_PS_drop_30 : decode prog_1_method_11_code 30 = .ok (.iload_n 2, 1) := by decide +kernel
theorem d_PS_drop_31 : decode prog_1_method_11_code 31 = .ok (.invokevirtual 187, 3) := by decide +kernel
theorem d_PS_drop_34 : decode prog_1_method_11_code 34 = .ok (.ifCond .le 11, 3) := by decide +kernel
theorem d_PS_drop_37 : decode prog_1_method_11_code 37 = .ok (.new 80, 3) := by decide +kernel
theorem d_PS_drop_40 : decode prog_1_method_11_code 40 = .ok (.dup, 1) := by decide +kernel
theorem d_PS_drop_41 : decode prog_1_method_11_code 41 = .ok (.invokespecial 82, 3) := by decide +kernel
theorem d_PS_drop_44 : decode prog_1_method_11_code 44 = .ok (.athrow, 1) := by decide +kernel
theorem d_PS_drop_45 : decode prog_1_method_11_code 45 = .ok (.aload_n 3, 1) := by decide +kernel
theorem d_PS_drop_46 : decode prog_1_method_11_code 46 = .ok (.iload_n 2, 1) := by decide +kernel
theorem d_PS_drop_47 : decode prog_1_method_11_code 47 = .ok (.invokevirtual 190, 3) := by decide +kernel
theorem d_PS_drop_50 : decode prog_1_method_11_code 50 = .ok (.aload_n 3, 1) := by decide +kernel
theorem d_PS_drop_51 : decode prog_1_method_11_code 51 = .ok (.getfield 193, 3) := by decide +kernel
theorem d_PS_drop_54 : decode prog_1_method_11_code 54 = .ok (.ireturn, 1) := by decide +kernel
def y_Vw_countManyNamed : MethodName := ⟨"PatchStore$View", "countManyNamed", "()I"⟩
abbrev c_Vw_countManyNamed : Cond := (Jvm.Cond.code ({ cls := "PatchStore$View", name := "countManyNamed", desc := "()I" } : Jvm.MethodName) prog_12_method_7_code (3 : Nat) (Option.some Jvm.ClassFile.FieldType.int))
abbrev ws_Vw_countManyNamed : List Cond := c_Vw_countManyNamed :: xg_1
theorem d_Vw_countManyNamed_0 : decode prog_12_method_7_code 0 = .ok (.iconst 0, 1) := by decide +kernel
theorem d_Vw_countManyNamed_1 : decode prog_12_method_7_code 1 = .ok (.istore_n 1, 1) := by decide +kernel
theorem d_Vw_countManyNamed_2 : decode prog_12_method_7_code 2 = .ok (.iconst 0, 1) := by decide +kernel
theorem d_Vw_countManyNamed_3 : decode prog_12_method_7_code 3 = .ok (.istore_n 2, 1) := by decide +kernel
theorem d_Vw_countManyNamed_4 : decode prog_12_method_7_code 4 = .ok (.iload_n 2, 1) := by decide +kernel
theorem d_Vw_countManyNamed_5 : decode prog_12_method_7_code 5 = .ok (.aload_n 0, 1) := by decide +kernel
theorem d_Vw_countManyNamed_6 : decode prog_12_method_7_code 6 = .ok (.getfield 79, 3) := by decide +kernel
theorem d_Vw_countManyNamed_9 : decode prog_12_method_7_code 9 = .ok (.if_icmp .ge 27, 3) := by decide +kernel
theorem d_Vw_countManyNamed_12 : decode prog_12_method_7_code 12 = .ok (.aload_n 0, 1) := by decide +kernel
theorem d_Vw_countManyNamed_13 : decode prog_12_method_7_code 13 = .ok (.getfield 15, 3) := by decide +kernel
theorem d_Vw_countManyNamed_16 : decode prog_12_method_7_code 16 = .ok (.aload_n 0, 1) := by decide +kernel
theorem d_Vw_countManyNamed_17 : decode prog_12_method_7_code 17 = .ok (.getfield 9, 3) := by decide +kernel
theorem d_Vw_countManyNamed_20 : decode prog_12_method_7_code 20 = .ok (.iload_n 2, 1) := by decide +kernel
theorem d_Vw_countManyNamed_21 : decode prog_12_method_7_code 21 = .ok (.iaload, 1) := by decide +kernel
theorem d_Vw_countManyNamed_22 : decode prog_12_method_7_code 22 = .ok (.iaload, 1) := by decide +kernel
theorem d_Vw_countManyNamed_23 : decode prog_12_method_7_code 23 = .ok (.iconst 1, 1) := by decide +kernel
theorem d_Vw_countManyNamed_24 : decode prog_12_method_7_code 24 = .ok (.if_icmp .le 6, 3) := by decide +kernel
theorem d_Vw_countManyNamed_27 : decode prog_12_method_7_code 27 = .ok (.iinc 1 1, 3) := by decide +kernel
theorem d_Vw_countManyNamed_30 : decode prog_12_method_7_code 30 = .ok (.iinc 2 1, 3) := by decide +kernel
theorem d_Vw_countManyNamed_33 : decode prog_12_method_7_code 33 = .ok (.goto (-29), 3) := by decide +kernel
theorem d_Vw_countManyNamed_36 : decode prog_12_method_7_code 36 = .ok (.iload_n 1, 1) := by decide +kernel
theorem d_Vw_countManyNamed_37 : decode prog_12_method_7_code 37 = .ok (.ireturn, 1) := by decide +kernel
def y_Vw_countSharing : MethodName := ⟨"PatchStore$View", "countSharing", "()I"⟩
abbrev c_Vw_countSharing : Cond := (Jvm.Cond.code ({ cls := "PatchStore$View", name := "countSharing", desc := "()I" } : Jvm.MethodName) prog_12_method_8_code (3 : Nat) (Option.some Jvm.ClassFile.FieldType.int))
abbrev ws_Vw_countSharing : List Cond := c_Vw_countSharing :: xg_1
theorem d_Vw_countSharing_0 : decode prog_12_method_8_code 0 = .ok (.aload_n 0, 1) := by decide +kernel
theorem d_Vw_countSharing_1 : decode prog_12_method_8_code 1 = .ok (.getfield 25, 3) := by decide +kernel
theorem d_Vw_countSharing_4 : decode prog_12_method_8_code 4 = .ok (.iconst (-1), 1) := by decide +kernel
theorem d_Vw_countSharing_5 : decode prog_12_method_8_code 5 = .ok (.invokestatic 70, 3) := by decide +kernel
theorem d_Vw_countSharing_8 : decode prog_12_method_8_code 8 = .ok (.aload_n 0, 1) := by decide +kernel
theorem d_Vw_countSharing_9 : decode prog_12_method_8_code 9 = .ok (.getfield 31, 3) := by decide +kernel
theorem d_Vw_countSharing_12 : decode prog_12_method_8_code 12 = .ok (.iconst 0, 1) := by decide +kernel
theorem d_Vw_countSharing_13 : decode prog_12_method_8_code 13 = .ok (.invokestatic 70, 3) := by decide +kernel
theorem d_Vw_countSharing_16 : decode prog_12_method_8_code 16 = .ok (.iconst 0, 1) := by decide +kernel
theorem d_Vw_countSharing_17 : decode prog_12_method_8_code 17 = .ok (.istore_n 1, 1) := by decide +kernel
theorem d_Vw_countSharing_18 : decode prog_12_method_8_code 18 = .ok (.iload_n 1, 1) := by decide +kernel
theorem d_Vw_countSharing_19 : decode prog_12_method_8_code 19 = .ok (.aload_n 0, 1) := by decide +kernel
theorem d_Vw_countSharing_20 : decode prog_12_method_8_code 20 = .ok (.getfield 76, 3) := by decide +kernel
theorem d_Vw_countSharing_23 : decode prog_12_method_8_code 23 = .ok (.if_icmp .ge 14, 3) := by decide +kernel
theorem d_Vw_countSharing_26 : decode prog_12_method_8_code 26 = .ok (.aload_n 0, 1) := by decide +kernel
theorem d_Vw_countSharing_27 : decode prog_12_method_8_code 27 = .ok (.iload_n 1, 1) := by decide +kernel
theorem d_Vw_countSharing_28 : decode prog_12_method_8_code 28 = .ok (.invokevirtual 117, 3) := by decide +kernel
theorem d_Vw_countSharing_31 : decode prog_12_method_8_code 31 = .ok (.iinc 1 1, 3) := by decide +kernel
theorem d_Vw_countSharing_34 : decode prog_12_method_8_code 34 = .ok (.goto (-16), 3) := by decide +kernel
theorem d_Vw_countSharing_37 : decode prog_12_method_8_code 37 = .ok (.iconst 0, 1) := by decide +kernel
theorem d_Vw_countSharing_38 : decode prog_12_method_8_code 38 = .ok (.istore_n 1, 1) := by decide +kernel
theorem d_Vw_countSharing_39 : decode prog_12_method_8_code 39 = .ok (.iconst 0, 1) := by decide +kernel
theorem d_Vw_countSharing_40 : decode prog_12_method_8_code 40 = .ok (.istore_n 2, 1) := by decide +kernel
theorem d_Vw_countSharing_41 : decode prog_12_method_8_code 41 = .ok (.iload_n 2, 1) := by decide +kernel
theorem d_Vw_countSharing_42 : decode prog_12_method_8_code 42 = .ok (.aload_n 0, 1) := by decide +kernel
theorem d_Vw_countSharing_43 : decode prog_12_method_8_code 43 = .ok (.getfield 79, 3) := by decide +kernel
theorem d_Vw_countSharing_46 : decode prog_12_method_8_code 46 = .ok (.if_icmp .ge 23, 3) := by decide +kernel
theorem d_Vw_countSharing_49 : decode prog_12_method_8_code 49 = .ok (.iload_n 1, 1) := by decide +kernel
theorem d_Vw_countSharing_50 : decode prog_12_method_8_code 50 = .ok (.aload_n 0, 1) := by decide +kernel
theorem d_Vw_countSharing_51 : decode prog_12_method_8_code 51 = .ok (.getfield 31, 3) := by decide +kernel
theorem d_Vw_countSharing_54 : decode prog_12_method_8_code 54 = .ok (.aload_n 0, 1) := by decide +kernel
theorem d_Vw_countSharing_55 : decode prog_12_method_8_code 55 = .ok (.getfield 9, 3) := by decide +kernel
theorem d_Vw_countSharing_58 : decode prog_12_method_8_code 58 = .ok (.iload_n 2, 1) := by decide +kernel
theorem d_Vw_countSharing_59 : decode prog_12_method_8_code 59 = .ok (.iaload, 1) := by decide +kernel
theorem d_Vw_countSharing_60 : decode prog_12_method_8_code 60 = .ok (.iaload, 1) := by decide +kernel
theorem d_Vw_countSharing_61 : decode prog_12_method_8_code 61 = .ok (.iadd, 1) := by decide +kernel
theorem d_Vw_countSharing_62 : decode prog_12_method_8_code 62 = .ok (.istore_n 1, 1) := by decide +kernel
theorem d_Vw_countSharing_63 : decode prog_12_method_8_code 63 = .ok (.iinc 2 1, 3) := by decide +kernel
theorem d_Vw_countSharing_66 : decode prog_12_method_8_code 66 = .ok (.goto (-25), 3) := by decide +kernel
theorem d_Vw_countSharing_69 : decode prog_12_method_8_code 69 = .ok (.iload_n 1, 1) := by decide +kernel
theorem d_Vw_countSharing_70 : decode prog_12_method_8_code 70 = .ok (.ireturn, 1) := by decide +kernel
def y_PS_about : MethodName := ⟨"PatchStore", "about", "(II)I"⟩
abbrev c_PS_about : Cond := (Jvm.Cond.code ({ cls := "PatchStore", name := "about", desc := "(II)I" } : Jvm.MethodName) prog_1_method_15_code (4 : Nat) (Option.some Jvm.ClassFile.FieldType.int))
abbrev ws_PS_about : List Cond := c_PS_about :: xg_1
theorem d_PS_about_0 : decode prog_1_method_15_code 0 = .ok (.aload_n 0, 1) := by decide +kernel
theorem d_PS_about_1 : decode prog_1_method_15_code 1 = .ok (.iload_n 1, 1) := by decide +kernel
theorem d_PS_about_2 : decode prog_1_method_15_code 2 = .ok (.invokevirtual 90, 3) := by decide +kernel
theorem d_PS_about_5 : decode prog_1_method_15_code 5 = .ok (.astore_n 3, 1) := by decide +kernel
theorem d_PS_about_6 : decode prog_1_method_15_code 6 = .ok (.aload_n 0, 1) := by decide +kernel
theorem d_PS_about_7 : decode prog_1_method_15_code 7 = .ok (.getfield 48, 3) := by decide +kernel
theorem d_PS_about_10 : decode prog_1_method_15_code 10 = .ok (.aload_n 3, 1) := by decide +kernel
theorem d_PS_about_11 : decode prog_1_method_15_code 11 = .ok (.invokevirtual 211, 3) := by decide +kernel
theorem d_PS_about_14 : decode prog_1_method_15_code 14 = .ok (.iload_n 2, 1) := by decide +kernel
theorem d_PS_about_15 : decode prog_1_method_15_code 15 = .ok (.tableswitch 58 0 3 #[29, 34, 42, 50], 29) := by decide +kernel
theorem d_PS_about_44 : decode prog_1_method_15_code 44 = .ok (.aload_n 3, 1) := by decide +kernel
theorem d_PS_about_45 : decode prog_1_method_15_code 45 = .ok (.getfield 193, 3) := by decide +kernel
theorem d_PS_about_48 : decode prog_1_method_15_code 48 = .ok (.ireturn, 1) := by decide +kernel
theorem d_PS_about_49 : decode prog_1_method_15_code 49 = .ok (.aload_n 0, 1) := by decide +kernel
theorem d_PS_about_50 : decode prog_1_method_15_code 50 = .ok (.getfield 48, 3) := by decide +kernel
theorem d_PS_about_53 : decode prog_1_method_15_code 53 = .ok (.getfield 214, 3) := by decide +kernel
theorem d_PS_about_56 : decode prog_1_method_15_code 56 = .ok (.ireturn, 1) := by decide +kernel
theorem d_PS_about_57 : decode prog_1_method_15_code 57 = .ok (.aload_n 0, 1) := by decide +kernel
theorem d_PS_about_58 : decode prog_1_method_15_code 58 = .ok (.getfield 48, 3) := by decide +kernel
theorem d_PS_about_61 : decode prog_1_method_15_code 61 = .ok (.invokevirtual 217, 3) := by decide +kernel
theorem d_PS_about_64 : decode prog_1_method_15_code 64 = .ok (.ireturn, 1) := by decide +kernel
theorem d_PS_about_65 : decode prog_1_method_15_code 65 = .ok (.aload_n 0, 1) := by decide +kernel
theorem d_PS_about_66 : decode prog_1_method_15_code 66 = .ok (.getfield 48, 3) := by decide +kernel
theorem d_PS_about_69 : decode prog_1_method_15_code 69 = .ok (.invokevirtual 221, 3) := by decide +kernel
theorem d_PS_about_72 : decode prog_1_method_15_code 72 = .ok (.ireturn, 1) := by decide +kernel
theorem d_PS_about_73 : decode prog_1_method_15_code 73 = .ok (.new 87, 3) := by decide +kernel
theorem d_PS_about_76 : decode prog_1_method_15_code 76 = .ok (.dup, 1) := by decide +kernel
theorem d_PS_about_77 : decode prog_1_method_15_code 77 = .ok (.invokespecial 89, 3) := by decide +kernel
theorem d_PS_about_80 : decode prog_1_method_15_code 80 = .ok (.athrow, 1) := by decide +kernel
def re_bit (mw : Nat → Int64) (n : Nat) : Prop := ¬ lg_cmp ((mw (n / 64) >>> ((nI (n % 64)).toInt64 &&& 63)) &&& 1) 0 = 0
def re_ok (mw : Nat → Int64) (x : Int32) : Prop := ∃ n : Nat, n < 500 ∧ x = nI n ∧ re_bit mw n
set_option maxHeartbeats 4000000 in
set_option maxRecDepth 100000 in
/-- Repository.holds -/
theorem m_Re_holds (l : Launch) (dC : Nat → ClassId) (dI : Nat → Nat → Nat) (cI cB cL cZ cR : ClassId) (h mb : Nat) (rr_digest rr_size rr_version rr_digestVersion : Value) (mw : Nat → Int64) (p0 : Int32) (sz : Nat) : Met l y_Re_holds ws_Re_holds ({ frames := 0, cells := 0, slots := 0, locals := 0 }) (xw_Pc dC dI [(cI, .int), (cB, .byte), (cL, .long), (cZ, .boolean), (cR, .object "PatchStore$Repository")] [.ref h, .int p0] [(h, .inr (7, [.ref mb, rr_digest, rr_size, rr_version, rr_digestVersion])), (mb, .inl (cL, 8, .inr (.inl mw)))] sz) (va_Qi (fun (r : Int32) (_ : Unit) => (r = 1 ∧ re_ok mw p0) ∨ (r = 0 ∧ ¬ re_ok mw p0)) (fun _ t => xw_B dC dI [(cI, .int), (cB, .byte), (cL, .long), (cZ, .boolean), (cR, .object "PatchStore$Repository")] (va_A [(h, .inr (7, [.ref mb, rr_digest, rr_size, rr_version, rr_digestVersion])), (mb, .inl (cL, 8, .inr (.inl mw)))] sz) [(h, .inr (7, [.ref mb, rr_digest, rr_size, rr_version, rr_digestVersion])), (mb, .inl (cL, 8, .inr (.inl mw)))] t) (va_A [(h, .inr (7, [.ref mb, rr_digest, rr_size, rr_version, rr_digestVersion])), (mb, .inl (cL, 8, .inr (.inl mw)))] sz)) 0 0 (va_A [(h, .inr (7, [.ref mb, rr_digest, rr_size, rr_version, rr_digestVersion])), (mb, .inl (cL, 8, .inr (.inl mw)))] sz) := by
  refine Met.ofW (cc := prog_8_method_2_code) (maxL := 2) (ret := (Option.some Jvm.ClassFile.FieldType.boolean)) (by decide) rfl ?_
  intro p e s m args below meth c s₁ B hml hv
  obtain ⟨rfl, hsz, hP, hK, hD0⟩ := hv
  have hx := B.exec
  have hb := B.bytes
  have hr := B.returns
  have hts0 := atoms_spec (ws := ws_Re_holds) B.pre
  have hts : ∀ w ∈ xg_1, w.before _ s = true := fun w h => hts0 w (List.mem_cons_of_mem _ h)
  have hown : s.vm.findClass "PatchStore$Repository" = some m.cls := findClass_of_methodNamed B.named
  have hlocks := B.notSynchronized
  subst hsz
  have hD := hD0.self (sz := s.heap.size)
  generalize hAe : va_A [(h, .inr (7, [.ref mb, rr_digest, rr_size, rr_version, rr_digestVersion])), (mb, .inl (cL, 8, .inr (.inl mw)))] s.heap.size = A at hD ⊢
  have hA : ∀ q : Nat, s.heap.size ≤ q → A q := fun q h => by rw [← hAe]; exact Or.inr h
  have hS : va_S A s.heap s.heap [] := va_S.rf
  have hl := lv_entry ([.ref h, .int p0]) (n := 2) (Nat.le_of_ble_eq_true rfl)
  rw [lg_entry_eq]
  generalize (lg_sl ([.ref h, .int p0]) ++ List.replicate (2 - (lg_sl ([.ref h, .int p0])).length) Slot.unset).toArray = ls at hl ⊢
  have hl : lv_has ls 2 [(0, .ref h), (1, .int p0)] := hl
  refine lv_iload_n hx hb d_Re_holds_0 rfl (lv_at hl 1 rfl) ?_
  refine lv_if_lt (tgt := 36) hx hb d_Re_holds_1 (by decide) (fun c_1 => ?_) (fun c_1 => ?_)
  · have hpost : (0 : Int32) = 1 ∧ re_ok mw p0 ∨ (0 : Int32) = 0 ∧ ¬ re_ok mw p0 := Or.inr ⟨rfl, by rintro ⟨n, hn, rfl, -⟩; exact nI_pos (by omega) c_1⟩
    refine lv_iconst (v := 0) hx hb d_Re_holds_36 (by decide) ?_
    exact W.zret (v := 0) hx hb hr nz_b0 (fun t ht hW => ⟨⟨_, (), rfl, hpost, by rw [ht]; exact hP, va_K.moved hW.alike hK, hD⟩, hS.F ht⟩) hS.2.2 d_Re_holds_37
  · refine lv_iload_n hx hb d_Re_holds_4 rfl (lv_at hl 1 rfl) ?_
    refine lv_sipush (v := 500) hx hb d_Re_holds_5 (by decide) ?_
    refine lv_icmp_ge (tgt := 36) hx hb d_Re_holds_8 (by decide) (fun c_8 => ?_) (fun c_8 => ?_)
    · have hpost : (0 : Int32) = 1 ∧ re_ok mw p0 ∨ (0 : Int32) = 0 ∧ ¬ re_ok mw p0 := Or.inr ⟨rfl, by rintro ⟨n, hn, rfl, -⟩; exact nI_ge (b := 500) hn (by decide) c_8⟩
      refine lv_iconst (v := 0) hx hb d_Re_holds_36 (by decide) ?_
      exact W.zret (v := 0) hx hb hr nz_b0 (fun t ht hW => ⟨⟨_, (), rfl, hpost, by rw [ht]; exact hP, va_K.moved hW.alike hK, hD⟩, hS.F ht⟩) hS.2.2 d_Re_holds_37
    · obtain ⟨n0, hn0, hp0⟩ := nI_of c_1
      subst hp0
      have hn5 : n0 < 500 := by rcases Nat.lt_or_ge n0 500 with z | z; exact z; exact absurd (nI_le (a := 500) z hn0) c_8
      refine lv_aload_n hx hb d_Re_holds_11 rfl (lv_at hl 0 rfl) ?_
      refine va_get (D := (dC, dI)) (ci := 7) (v := .ref mb) (C := R_Re) (T := F_Re) (N := 5) hx hb hts i_Re hown hK hP 0 rfl rfl 0 (by decide) (hts _ gw_527) (fun _ h9 => h9) rfl d_Re_holds_12 ?_
      refine lv_iload_n hx hb d_Re_holds_15 rfl (lv_at hl 1 rfl) ?_
      refine lv_bipush (v := 6) hx hb d_Re_holds_16 (by decide) ?_
      refine lv_ishr hx hb d_Re_holds_18 ?_
      refine lv_topi (fun x_1 ex_1 => ?_)
      obtain rfl : x_1 = nI (n0 / 64) := by rw [ex_1]; first | done | (exact pk_shrN hn0 _ 6 (by decide))
      refine va_lald hx hb hK hP 1 2 rfl rfl (vp_in_nI (by omega) (by omega)) d_Re_holds_19 ?_
      rw [show (nI (n0 / 64)).toNatClampNeg = (n0 / 64) from nI_clamp (by omega)]
      refine lv_iload_n hx hb d_Re_holds_20 rfl (lv_at hl 1 rfl) ?_
      refine lv_bipush (v := 63) hx hb d_Re_holds_21 (by decide) ?_
      refine lv_iand hx hb d_Re_holds_23 ?_
      refine lv_topi (fun x_2 ex_2 => ?_)
      obtain rfl : x_2 = nI (n0 % 64) := by rw [ex_2]; first | done | (exact pk_andN (by omega) 6 (by decide))
      refine lv_lshr hx hb d_Re_holds_24 rfl ?_
      refine lv_lconst (v := 1) hx hb d_Re_holds_25 (by decide) ?_
      refine lv_land hx hb d_Re_holds_26 ?_
      refine lv_lconst (v := 0) hx hb d_Re_holds_27 (by decide) ?_
      refine W.lcmp hx hb d_Re_holds_28 ?_
      refine lv_if_eq (tgt := 36) hx hb d_Re_holds_29 (by decide) (fun c_29 => ?_) (fun c_29 => ?_)
      · have hpost : (0 : Int32) = 1 ∧ re_ok mw (nI n0) ∨ (0 : Int32) = 0 ∧ ¬ re_ok mw (nI n0) := Or.inr ⟨rfl, by rintro ⟨n, hn, e9, hb9⟩; obtain rfl := (nI_eq (by omega) (by omega)).mp e9; exact hb9 c_29⟩
        refine lv_iconst (v := 0) hx hb d_Re_holds_36 (by decide) ?_
        exact W.zret (v := 0) hx hb hr nz_b0 (fun t ht hW => ⟨⟨_, (), rfl, hpost, by rw [ht]; exact hP, va_K.moved hW.alike hK, hD⟩, hS.F ht⟩) hS.2.2 d_Re_holds_37
      · have hpost : (1 : Int32) = 1 ∧ re_ok mw (nI n0) ∨ (1 : Int32) = 0 ∧ ¬ re_ok mw (nI n0) := Or.inl ⟨rfl, n0, hn5, rfl, c_29⟩
        refine lv_iconst (v := 1) hx hb d_Re_holds_32 (by decide) ?_
        refine lv_goto (tgt := 37) hx hb d_Re_holds_33 (by decide) ?_
        exact W.zret (v := 1) hx hb hr nz_b1 (fun t ht hW => ⟨⟨_, (), rfl, hpost, by rw [ht]; exact hP, va_K.moved hW.alike hK, hD⟩, hS.F ht⟩) hS.2.2 d_Re_holds_37
end
section
/-! 28.pull0.lean.txt -/
theorem gw_36 : (Jvm.Cond.initialized "java/lang/Long") ∈ xg_1 := xg_s1 36 rfl rfl
theorem gw_528 : (Jvm.Cond.fieldLink "PatchStore" (163 : Nat) "PatchStore$Repository" "members" "[J") ∈ xg_1 := xg_s3 48 rfl rfl
theorem gw_531 : (Jvm.Cond.fieldLink "PatchStore$Repository" (35 : Nat) "PatchStore$Repository" "size" "I") ∈ xg_1 := xg_s3 51 rfl rfl
theorem gw_866 : (Jvm.Cond.constantLong "PatchStore$Repository" (23 : Nat) (-1 : Int64)) ∈ xg_1 := xg_s4 146 rfl rfl
theorem gw_1230 : (Jvm.Cond.methodLink "PatchStore" (167 : Nat) ({ cls := "PatchStore$Repository", name := "takeAll", desc := "([JI)I" } : Jvm.MethodName)) ∈ xg_1 := xg_s6 30 rfl rfl
theorem gw_1231 : (Jvm.Cond.instanceMethod ({ cls := "PatchStore$Repository", name := "takeAll", desc := "([JI)I" } : Jvm.MethodName)) ∈ xg_1 := xg_s6 31 rfl rfl
theorem gw_1232 : (Jvm.Cond.selects "PatchStore$Repository" ({ cls := "PatchStore$Repository", name := "takeAll", desc := "([JI)I" } : Jvm.MethodName) ({ cls := "PatchStore$Repository", name := "takeAll", desc := "([JI)I" } : Jvm.MethodName)) ∈ xg_1 := xg_s6 32 rfl rfl
theorem gw_1233 : (Jvm.Cond.code ({ cls := "PatchStore$Repository", name := "takeAll", desc := "([JI)I" } : Jvm.MethodName) prog_8_method_6_code (5 : Nat) (Option.some Jvm.ClassFile.FieldType.int)) ∈ xg_1 := xg_s6 33 rfl rfl
theorem gw_1234 : (Jvm.Cond.methodLink "PatchStore$Repository" (25 : Nat) ({ cls := "java/lang/Long", name := "bitCount", desc := "(J)I" } : Jvm.MethodName)) ∈ xg_1 := xg_s6 34 rfl rfl
theorem gw_1235 : (Jvm.Cond.static ({ cls := "java/lang/Long", name := "bitCount", desc := "(J)I" } : Jvm.MethodName)) ∈ xg_1 := xg_s6 35 rfl rfl
theorem gw_1236 : (Jvm.Cond.code ({ cls := "java/lang/Long", name := "bitCount", desc := "(J)I" } : Jvm.MethodName) prog_26_method_50_code (2 : Nat) (Option.some Jvm.ClassFile.FieldType.int)) ∈ xg_1 := xg_s6 36 rfl rfl
theorem gw_1237 : (Jvm.Cond.constantLong "java/lang/Long" (314 : Nat) (6148914691236517205 : Int64)) ∈ xg_1 := xg_s6 37 rfl rfl
theorem gw_1238 : (Jvm.Cond.constantLong "java/lang/Long" (316 : Nat) (3689348814741910323 : Int64)) ∈ xg_1 := xg_s6 38 rfl rfl
theorem gw_1239 : (Jvm.Cond.constantLong "java/lang/Long" (318 : Nat) (1085102592571150095 : Int64)) ∈ xg_1 := xg_s6 39 rfl rfl
def y_Lo_bitCount : MethodName := ⟨"java/lang/Long", "bitCount", "(J)I"⟩
abbrev c_Lo_bitCount : Cond := (Jvm.Cond.code ({ cls := "java/lang/Long", name := "bitCount", desc := "(J)I" } : Jvm.MethodName) prog_26_method_50_code (2 : Nat) (Option.some Jvm.ClassFile.FieldType.int))
abbrev ws_Lo_bitCount : List Cond := c_Lo_bitCount :: xg_1
theorem d_Lo_bitCount_0 : decode prog_26_method_50_code 0 = .ok (.lload_n 0, 1) := by decide +kernel
theorem d_Lo_bitCount_1 : decode prog_26_method_50_code 1 = .ok (.lload_n 0, 1) := by decide +kernel
theorem d_Lo_bitCount_2 : decode prog_26_method_50_code 2 = .ok (.iconst 1, 1) := by decide +kernel
theorem d_Lo_bitCount_3 : decode prog_26_method_50_code 3 = .ok (.lushr, 1) := by decide +kernel
theorem d_Lo_bitCount_4 : decode prog_26_method_50_code 4 = .ok (.ldc2_w 314, 3) := by decide +kernel
theorem d_Lo_bitCount_7 : decode prog_26_method_50_code 7 = .ok (.land, 1) := by decide +kernel
theorem d_Lo_bitCount_8 : decode prog_26_method_50_code 8 = .ok (.lsub, 1) := by decide +kernel
theorem d_Lo_bitCount_9 : decode prog_26_method_50_code 9 = .ok (.lstore_n 0, 1) := by decide +kernel
theorem d_Lo_bitCount_10 : decode prog_26_method_50_code 10 = .ok (.lload_n 0, 1) := by decide +kernel
theorem d_Lo_bitCount_11 : decode prog_26_method_50_code 11 = .ok (.ldc2_w 316, 3) := by decide +kernel
theorem d_Lo_bitCount_14 : decode prog_26_method_50_code 14 = .ok (.land, 1) := by decide +kernel
theorem d_Lo_bitCount_15 : decode prog_26_method_50_code 15 = .ok (.lload_n 0, 1) := by decide +kernel
theorem d_Lo_bitCount_16 : decode prog_26_method_50_code 16 = .ok (.iconst 2, 1) := by decide +kernel
theorem d_Lo_bitCount_17 : decode prog_26_method_50_code 17 = .ok (.lushr, 1) := by decide +kernel
theorem d_Lo_bitCount_18 : decode prog_26_method_50_code 18 = .ok (.ldc2_w 316, 3) := by decide +kernel
theorem d_Lo_bitCount_21 : decode prog_26_method_50_code 21 = .ok (.land, 1) := by decide +kernel
theorem d_Lo_bitCount_22 : decode prog_26_method_50_code 22 = .ok (.ladd, 1) := by decide +kernel
theorem d_Lo_bitCount_23 : decode prog_26_method_50_code 23 = .ok (.lstore_n 0, 1) := by decide +kernel
theorem d_Lo_bitCount_24 : decode prog_26_method_50_code 24 = .ok (.lload_n 0, 1) := by decide +kernel
theorem d_Lo_bitCount_25 : decode prog_26_method_50_code 25 = .ok (.lload_n 0, 1) := by decide +kernel
theorem d_Lo_bitCount_26 : decode prog_26_method_50_code 26 = .ok (.iconst 4, 1) := by decide +kernel
theorem d_Lo_bitCount_27 : decode prog_26_method_50_code 27 = .ok (.lushr, 1) := by decide +kernel
theorem d_Lo_bitCount_28 : decode prog_26_method_50_code 28 = .ok (.ladd, 1) := by decide +kernel
theorem d_Lo_bitCount_29 : decode prog_26_method_50_code 29 = .ok (.ldc2_w 318, 3) := by decide +kernel
theorem d_Lo_bitCount_32 : decode prog_26_method_50_code 32 = .ok (.land, 1) := by decide +kernel
theorem d_Lo_bitCount_33 : decode prog_26_method_50_code 33 = .ok (.lstore_n 0, 1) := by decide +kernel
theorem d_Lo_bitCount_34 : decode prog_26_method_50_code 34 = .ok (.lload_n 0, 1) := by decide +kernel
theorem d_Lo_bitCount_35 : decode prog_26_method_50_code 35 = .ok (.lload_n 0, 1) := by decide +kernel
theorem d_Lo_bitCount_36 : decode prog_26_method_50_code 36 = .ok (.bipush 8, 2) := by decide +kernel
theorem d_Lo_bitCount_38 : decode prog_26_method_50_code 38 = .ok (.lushr, 1) := by decide +kernel
theorem d_Lo_bitCount_39 : decode prog_26_method_50_code 39 = .ok (.ladd, 1) := by decide +kernel
theorem d_Lo_bitCount_40 : decode prog_26_method_50_code 40 = .ok (.lstore_n 0, 1) := by decide +kernel
theorem d_Lo_bitCount_41 : decode prog_26_method_50_code 41 = .ok (.lload_n 0, 1) := by decide +kernel
theorem d_Lo_bitCount_42 : decode prog_26_method_50_code 42 = .ok (.lload_n 0, 1) := by decide +kernel
theorem d_Lo_bitCount_43 : decode prog_26_method_50_code 43 = .ok (.bipush 16, 2) := by decide +kernel
theorem d_Lo_bitCount_45 : decode prog_26_method_50_code 45 = .ok (.lushr, 1) := by decide +kernel
theorem d_Lo_bitCount_46 : decode prog_26_method_50_code 46 = .ok (.ladd, 1) := by decide +kernel
theorem d_Lo_bitCount_47 : decode prog_26_method_50_code 47 = .ok (.lstore_n 0, 1) := by decide +kernel
theorem d_Lo_bitCount_48 : decode prog_26_method_50_code 48 = .ok (.lload_n 0, 1) := by decide +kernel
theorem d_Lo_bitCount_49 : decode prog_26_method_50_code 49 = .ok (.lload_n 0, 1) := by decide +kernel
theorem d_Lo_bitCount_50 : decode prog_26_method_50_code 50 = .ok (.bipush 32, 2) := by decide +kernel
theorem d_Lo_bitCount_52 : decode prog_26_method_50_code 52 = .ok (.lushr, 1) := by decide +kernel
theorem d_Lo_bitCount_53 : decode prog_26_method_50_code 53 = .ok (.ladd, 1) := by decide +kernel
theorem d_Lo_bitCount_54 : decode prog_26_method_50_code 54 = .ok (.lstore_n 0, 1) := by decide +kernel
theorem d_Lo_bitCount_55 : decode prog_26_method_50_code 55 = .ok (.lload_n 0, 1) := by decide +kernel
theorem d_Lo_bitCount_56 : decode prog_26_method_50_code 56 = .ok (.l2i, 1) := by decide +kernel
theorem d_Lo_bitCount_57 : decode prog_26_method_50_code 57 = .ok (.bipush 127, 2) := by decide +kernel
theorem d_Lo_bitCount_59 : decode prog_26_method_50_code 59 = .ok (.iand, 1) := by decide +kernel
theorem d_Lo_bitCount_60 : decode prog_26_method_50_code 60 = .ok (.ireturn, 1) := by decide +kernel
def y_Re_takeAll : MethodName := ⟨"PatchStore$Repository", "takeAll", "([JI)I"⟩
abbrev c_Re_takeAll : Cond := (Jvm.Cond.code ({ cls := "PatchStore$Repository", name := "takeAll", desc := "([JI)I" } : Jvm.MethodName) prog_8_method_6_code (5 : Nat) (Option.some Jvm.ClassFile.FieldType.int))
abbrev ws_Re_takeAll : List Cond := c_Re_takeAll :: xg_1
theorem d_Re_takeAll_0 : decode prog_8_method_6_code 0 = .ok (.aload_n 0, 1) := by decide +kernel
theorem d_Re_takeAll_1 : decode prog_8_method_6_code 1 = .ok (.getfield 35, 3) := by decide +kernel
theorem d_Re_takeAll_4 : decode prog_8_method_6_code 4 = .ok (.istore_n 3, 1) := by decide +kernel
theorem d_Re_takeAll_5 : decode prog_8_method_6_code 5 = .ok (.iconst 0, 1) := by decide +kernel
theorem d_Re_takeAll_6 : decode prog_8_method_6_code 6 = .ok (.istore 4, 2) := by decide +kernel
theorem d_Re_takeAll_8 : decode prog_8_method_6_code 8 = .ok (.iload 4, 2) := by decide +kernel
theorem d_Re_takeAll_10 : decode prog_8_method_6_code 10 = .ok (.bipush 8, 2) := by decide +kernel
theorem d_Re_takeAll_12 : decode prog_8_method_6_code 12 = .ok (.if_icmp .ge 55, 3) := by decide +kernel
theorem d_Re_takeAll_15 : decode prog_8_method_6_code 15 = .ok (.aload_n 0, 1) := by decide +kernel
theorem d_Re_takeAll_16 : decode prog_8_method_6_code 16 = .ok (.dup, 1) := by decide +kernel
theorem d_Re_takeAll_17 : decode prog_8_method_6_code 17 = .ok (.getfield 35, 3) := by decide +kernel
theorem d_Re_takeAll_20 : decode prog_8_method_6_code 20 = .ok (.aload_n 1, 1) := by decide +kernel
theorem d_Re_takeAll_21 : decode prog_8_method_6_code 21 = .ok (.iload_n 2, 1) := by decide +kernel
theorem d_Re_takeAll_22 : decode prog_8_method_6_code 22 = .ok (.iload 4, 2) := by decide +kernel
theorem d_Re_takeAll_24 : decode prog_8_method_6_code 24 = .ok (.iadd, 1) := by decide +kernel
theorem d_Re_takeAll_25 : decode prog_8_method_6_code 25 = .ok (.laload, 1) := by decide +kernel
theorem d_Re_takeAll_26 : decode prog_8_method_6_code 26 = .ok (.aload_n 0, 1) := by decide +kernel
theorem d_Re_takeAll_27 : decode prog_8_method_6_code 27 = .ok (.getfield 9, 3) := by decide +kernel
theorem d_Re_takeAll_30 : decode prog_8_method_6_code 30 = .ok (.iload 4, 2) := by decide +kernel
theorem d_Re_takeAll_32 : decode prog_8_method_6_code 32 = .ok (.laload, 1) := by decide +kernel
theorem d_Re_takeAll_33 : decode prog_8_method_6_code 33 = .ok (.ldc2_w 23, 3) := by decide +kernel
theorem d_Re_takeAll_36 : decode prog_8_method_6_code 36 = .ok (.lxor, 1) := by decide +kernel
theorem d_Re_takeAll_37 : decode prog_8_method_6_code 37 = .ok (.land, 1) := by decide +kernel
theorem d_Re_takeAll_38 : decode prog_8_method_6_code 38 = .ok (.invokestatic 25, 3) := by decide +kernel
theorem d_Re_takeAll_41 : decode prog_8_method_6_code 41 = .ok (.iadd, 1) := by decide +kernel
theorem d_Re_takeAll_42 : decode prog_8_method_6_code 42 = .ok (.putfield 35, 3) := by decide +kernel
theorem d_Re_takeAll_45 : decode prog_8_method_6_code 45 = .ok (.aload_n 0, 1) := by decide +kernel
theorem d_Re_takeAll_46 : decode prog_8_method_6_code 46 = .ok (.getfield 9, 3) := by decide +kernel
theorem d_Re_takeAll_49 : decode prog_8_method_6_code 49 = .ok (.iload 4, 2) := by decide +kernel
theorem d_Re_takeAll_51 : decode prog_8_method_6_code 51 = .ok (.dup2, 1) := by decide +kernel
theorem d_Re_takeAll_52 : decode prog_8_method_6_code 52 = .ok (.laload, 1) := by decide +kernel
theorem d_Re_takeAll_53 : decode prog_8_method_6_code 53 = .ok (.aload_n 1, 1) := by decide +kernel
theorem d_Re_takeAll_54 : decode prog_8_method_6_code 54 = .ok (.iload_n 2, 1) := by decide +kernel
theorem d_Re_takeAll_55 : decode prog_8_method_6_code 55 = .ok (.iload 4, 2) := by decide +kernel
theorem d_Re_takeAll_57 : decode prog_8_method_6_code 57 = .ok (.iadd, 1) := by decide +kernel
theorem d_Re_takeAll_58 : decode prog_8_method_6_code 58 = .ok (.laload, 1) := by decide +kernel
theorem d_Re_takeAll_59 : decode prog_8_method_6_code 59 = .ok (.lor, 1) := by decide +kernel
theorem d_Re_takeAll_60 : decode prog_8_method_6_code 60 = .ok (.lastore, 1) := by decide +kernel
theorem d_Re_takeAll_61 : decode prog_8_method_6_code 61 = .ok (.iinc 4 1, 3) := by decide +kernel
theorem d_Re_takeAll_64 : decode prog_8_method_6_code 64 = .ok (.goto (-56), 3) := by decide +kernel
theorem d_Re_takeAll_67 : decode prog_8_method_6_code 67 = .ok (.aload_n 0, 1) := by decide +kernel
theorem d_Re_takeAll_68 : decode prog_8_method_6_code 68 = .ok (.getfield 35, 3) := by decide +kernel
theorem d_Re_takeAll_71 : decode prog_8_method_6_code 71 = .ok (.iload_n 3, 1) := by decide +kernel
theorem d_Re_takeAll_72 : decode prog_8_method_6_code 72 = .ok (.if_icmp .eq 13, 3) := by decide +kernel
theorem d_Re_takeAll_75 : decode prog_8_method_6_code 75 = .ok (.aload_n 0, 1) := by decide +kernel
theorem d_Re_takeAll_76 : decode prog_8_method_6_code 76 = .ok (.dup, 1) := by decide +kernel
theorem d_Re_takeAll_77 : decode prog_8_method_6_code 77 = .ok (.getfield 38, 3) := by decide +kernel
theorem d_Re_takeAll_80 : decode prog_8_method_6_code 80 = .ok (.iconst 1, 1) := by decide +kernel
theorem d_Re_takeAll_81 : decode prog_8_method_6_code 81 = .ok (.iadd, 1) := by decide +kernel
theorem d_Re_takeAll_82 : decode prog_8_method_6_code 82 = .ok (.putfield 38, 3) := by decide +kernel
theorem d_Re_takeAll_85 : decode prog_8_method_6_code 85 = .ok (.aload_n 0, 1) := by decide +kernel
theorem d_Re_takeAll_86 : decode prog_8_method_6_code 86 = .ok (.getfield 35, 3) := by decide +kernel
theorem d_Re_takeAll_89 : decode prog_8_method_6_code 89 = .ok (.iload_n 3, 1) := by decide +kernel
theorem d_Re_takeAll_90 : decode prog_8_method_6_code 90 = .ok (.isub, 1) := by decide +kernel
theorem d_Re_takeAll_91 : decode prog_8_method_6_code 91 = .ok (.ireturn, 1) := by decide +kernel
def y_PS_pull : MethodName := ⟨"PatchStore", "pull", "(III)I"⟩
abbrev c_PS_pull : Cond := (Jvm.Cond.code ({ cls := "PatchStore", name := "pull", desc := "(III)I" } : Jvm.MethodName) prog_1_method_10_code (6 : Nat) (Option.some Jvm.ClassFile.FieldType.int))
abbrev ws_PS_pull : List Cond := c_PS_pull :: xg_1
theorem d_PS_pull_0 : decode prog_1_method_10_code 0 = .ok (.aload_n 0, 1) := by decide +kernel
theorem d_PS_pull_1 : decode prog_1_method_10_code 1 = .ok (.iload_n 1, 1) := by decide +kernel
theorem d_PS_pull_2 : decode prog_1_method_10_code 2 = .ok (.invokevirtual 90, 3) := by decide +kernel
theorem d_PS_pull_5 : decode prog_1_method_10_code 5 = .ok (.astore 4, 2) := by decide +kernel
theorem d_PS_pull_7 : decode prog_1_method_10_code 7 = .ok (.aload_n 0, 1) := by decide +kernel
theorem d_PS_pull_8 : decode prog_1_method_10_code 8 = .ok (.iload_n 2, 1) := by decide +kernel
theorem d_PS_pull_9 : decode prog_1_method_10_code 9 = .ok (.invokevirtual 90, 3) := by decide +kernel
theorem d_PS_pull_12 : decode prog_1_method_10_code 12 = .ok (.astore 5, 2) := by decide +kernel
theorem d_PS_pull_14 : decode prog_1_method_10_code 14 = .ok (.iload_n 3, 1) := by decide +kernel
theorem d_PS_pull_15 : decode prog_1_method_10_code 15 = .ok (.ifCond .ge 15, 3) := by decide +kernel
theorem d_PS_pull_18 : decode prog_1_method_10_code 18 = .ok (.aload 4, 2) := by decide +kernel
theorem d_PS_pull_20 : decode prog_1_method_10_code 20 = .ok (.aload 5, 2) := by decide +kernel
theorem d_PS_pull_22 : decode prog_1_method_10_code 22 = .ok (.getfield 163, 3) := by decide +kernel
theorem d_PS_pull_25 : decode prog_1_method_10_code 25 = .ok (.iconst 0, 1) := by decide +kernel
theorem d_PS_pull_26 : decode prog_1_method_10_code 26 = .ok (.invokevirtual 167, 3) := by decide +kernel
theorem d_PS_pull_29 : decode prog_1_method_10_code 29 = .ok (.ireturn, 1) := by decide +kernel
theorem d_PS_pull_30 : decode prog_1_method_10_code 30 = .ok (.aload 5, 2) := by decide +kernel
theorem d_PS_pull_32 : decode prog_1_method_10_code 32 = .ok (.iload_n 3, 1) := by decide +kernel
theorem d_PS_pull_33 : decode prog_1_method_10_code 33 = .ok (.invokevirtual 171, 3) := by decide +kernel
theorem d_PS_pull_36 : decode prog_1_method_10_code 36 = .ok (.ifCond .ne 11, 3) := by decide +kernel
theorem d_PS_pull_39 : decode prog_1_method_10_code 39 = .ok (.new 174, 3) := by decide +kernel
theorem d_PS_pull_42 : decode prog_1_method_10_code 42 = .ok (.dup, 1) := by decide +kernel
theorem d_PS_pull_43 : decode prog_1_method_10_code 43 = .ok (.invokespecial 176, 3) := by decide +kernel
theorem d_PS_pull_46 : decode prog_1_method_10_code 46 = .ok (.athrow, 1) := by decide +kernel
theorem d_PS_pull_47 : decode prog_1_method_10_code 47 = .ok (.aload 4, 2) := by decide +kernel
theorem d_PS_pull_49 : decode prog_1_method_10_code 49 = .ok (.aload_n 0, 1) := by decide +kernel
theorem d_PS_pull_50 : decode prog_1_method_10_code 50 = .ok (.getfield 30, 3) := by decide +kernel
theorem d_PS_pull_53 : decode prog_1_method_10_code 53 = .ok (.getfield 177, 3) := by decide +kernel
theorem d_PS_pull_56 : decode prog_1_method_10_code 56 = .ok (.iload_n 3, 1) := by decide +kernel
theorem d_PS_pull_57 : decode prog_1_method_10_code 57 = .ok (.bipush 8, 2) := by decide +kernel
theorem d_PS_pull_59 : decode prog_1_method_10_code 59 = .ok (.imul, 1) := by decide +kernel
theorem d_PS_pull_60 : decode prog_1_method_10_code 60 = .ok (.invokevirtual 167, 3) := by decide +kernel
theorem d_PS_pull_63 : decode prog_1_method_10_code 63 = .ok (.aload 4, 2) := by decide +kernel
theorem d_PS_pull_65 : decode prog_1_method_10_code 65 = .ok (.iload_n 3, 1) := by decide +kernel
theorem d_PS_pull_66 : decode prog_1_method_10_code 66 = .ok (.invokevirtual 180, 3) := by decide +kernel
theorem d_PS_pull_69 : decode prog_1_method_10_code 69 = .ok (.iadd, 1) := by decide +kernel
theorem d_PS_pull_70 : decode prog_1_method_10_code 70 = .ok (.ireturn, 1) := by decide +kernel
def bc_sh (x : Int64) (k : Int32) : Int64 := (x.toUInt64 >>> ((k : Int32).toInt64.toUInt64 &&& Int64.toUInt64 63)).toInt64
def bc_1 (x : Int64) : Int64 := x - (bc_sh x 1 &&& 6148914691236517205)
def bc_2 (x : Int64) : Int64 := (x &&& 3689348814741910323) + (bc_sh x 2 &&& 3689348814741910323)
def bc_3 (x : Int64) : Int64 := (x + bc_sh x 4) &&& 1085102592571150095
def bc_4 (x : Int64) (k : Int32) : Int64 := x + bc_sh x k
/-- Long.bitCount -/
def bc (x : Int64) : Int32 := (bc_4 (bc_4 (bc_4 (bc_3 (bc_2 (bc_1 x))) 8) 16) 32).toInt32 &&& 127
theorem bc_0 : bc 0 = 0 := by decide +kernel
set_option maxHeartbeats 4000000 in
set_option maxRecDepth 100000 in
/-- Long.bitCount -/
theorem m_Lg_bitCount (l : Launch) (dC : Nat → ClassId) (dI : Nat → Nat → Nat) (cI cB cL cZ cR : ClassId) (x : Int64) (sz : Nat) : Met l y_Lo_bitCount ws_Lo_bitCount ({ frames := 0, cells := 0, slots := 0, locals := 0 }) (xw_Pc dC dI [(cI, .int), (cB, .byte), (cL, .long), (cZ, .boolean), (cR, .object "PatchStore$Repository")] [.long x] [] sz) (va_Qi (fun (r : Int32) (_ : Unit) => r = bc x) (fun _ t => xw_B dC dI [(cI, .int), (cB, .byte), (cL, .long), (cZ, .boolean), (cR, .object "PatchStore$Repository")] (va_A [] sz) [] t) (va_A [] sz)) 0 0 (va_A [] sz) := by
  refine Met.ofW (cc := prog_26_method_50_code) (maxL := 2) (ret := (Option.some Jvm.ClassFile.FieldType.int)) (by decide) rfl ?_
  intro p e s m args below meth c s₁ B hml hv
  obtain ⟨rfl, hsz, hP, hK, hD0⟩ := hv
  have hx := B.exec
  have hb := B.bytes
  have hr := B.returns
  have hts0 := atoms_spec (ws := ws_Lo_bitCount) B.pre
  have hts : ∀ w ∈ xg_1, w.before _ s = true := fun w h => hts0 w (List.mem_cons_of_mem _ h)
  have hown : s.vm.findClass "java/lang/Long" = some m.cls := findClass_of_methodNamed B.named
  have hlocks := B.notSynchronized
  subst hsz
  have hD := hD0.self (sz := s.heap.size)
  generalize hAe : va_A [] s.heap.size = A at hD ⊢
  have hA : ∀ q : Nat, s.heap.size ≤ q → A q := fun q h => by rw [← hAe]; exact Or.inr h
  have hS : va_S A s.heap s.heap [] := va_S.rf
  have hl := lv_entry ([.long x]) (n := 2) (Nat.le_of_ble_eq_true rfl)
  rw [lg_entry_eq]
  generalize (lg_sl ([.long x]) ++ List.replicate (2 - (lg_sl ([.long x])).length) Slot.unset).toArray = ls at hl ⊢
  have hl : lv_has ls 2 [(0, .long x)] := hl
  refine lv_lload_n hx hb d_Lo_bitCount_0 rfl (lv_at hl 0 rfl) ?_
  refine lv_lload_n hx hb d_Lo_bitCount_1 rfl (lv_at hl 0 rfl) ?_
  refine lv_iconst (v := 1) hx hb d_Lo_bitCount_2 (by decide) ?_
  refine lv_lushr hx hb d_Lo_bitCount_3 rfl ?_
  refine lv_ldc2 (own := "java/lang/Long") hx hb hown (hts _ gw_1237) d_Lo_bitCount_4 ?_
  refine lv_land hx hb d_Lo_bitCount_7 ?_
  refine lv_lsub hx hb d_Lo_bitCount_8 ?_
  refine lv_topl (fun x_1 ex_1 => ?_)
  obtain rfl : x_1 = bc_1 x := by rw [ex_1]; first | done | (rfl)
  refine lv_lstore_n (lv' := [(0, .long (bc_1 x))]) hx hb d_Lo_bitCount_9 rfl hl (by decide) rfl (fun ls hl => ?_)
  refine lv_lload_n hx hb d_Lo_bitCount_10 rfl (lv_at hl 0 rfl) ?_
  refine lv_ldc2 (own := "java/lang/Long") hx hb hown (hts _ gw_1238) d_Lo_bitCount_11 ?_
  refine lv_land hx hb d_Lo_bitCount_14 ?_
  refine lv_lload_n hx hb d_Lo_bitCount_15 rfl (lv_at hl 0 rfl) ?_
  refine lv_iconst (v := 2) hx hb d_Lo_bitCount_16 (by decide) ?_
  refine lv_lushr hx hb d_Lo_bitCount_17 rfl ?_
  refine lv_ldc2 (own := "java/lang/Long") hx hb hown (hts _ gw_1238) d_Lo_bitCount_18 ?_
  refine lv_land hx hb d_Lo_bitCount_21 ?_
  refine lv_ladd hx hb d_Lo_bitCount_22 ?_
  refine lv_topl (fun x_2 ex_2 => ?_)
  obtain rfl : x_2 = bc_2 (bc_1 x) := by rw [ex_2]; first | done | (rfl)
  refine lv_lstore_n (lv' := [(0, .long (bc_2 (bc_1 x)))]) hx hb d_Lo_bitCount_23 rfl hl (by decide) rfl (fun ls hl => ?_)
  refine lv_lload_n hx hb d_Lo_bitCount_24 rfl (lv_at hl 0 rfl) ?_
  refine lv_lload_n hx hb d_Lo_bitCount_25 rfl (lv_at hl 0 rfl) ?_
  refine lv_iconst (v := 4) hx hb d_Lo_bitCount_26 (by decide) ?_
  refine lv_lushr hx hb d_Lo_bitCount_27 rfl ?_
  refine lv_ladd hx hb d_Lo_bitCount_28 ?_
  refine lv_ldc2 (own := "java/lang/Long") hx hb hown (hts _ gw_1239) d_Lo_bitCount_29 ?_
  refine lv_land hx hb d_Lo_bitCount_32 ?_
  refine lv_topl (fun x_3 ex_3 => ?_)
  obtain rfl : x_3 = bc_3 (bc_2 (bc_1 x)) := by rw [ex_3]; first | done | (rfl)
  refine lv_lstore_n (lv' := [(0, .long (bc_3 (bc_2 (bc_1 x))))]) hx hb d_Lo_bitCount_33 rfl hl (by decide) rfl (fun ls hl => ?_)
  refine lv_lload_n hx hb d_Lo_bitCount_34 rfl (lv_at hl 0 rfl) ?_
  refine lv_lload_n hx hb d_Lo_bitCount_35 rfl (lv_at hl 0 rfl) ?_
  refine lv_bipush (v := 8) hx hb d_Lo_bitCount_36 (by decide) ?_
  refine lv_lushr hx hb d_Lo_bitCount_38 rfl ?_
  refine lv_ladd hx hb d_Lo_bitCount_39 ?_
  refine lv_topl (fun x_4 ex_4 => ?_)
  obtain rfl : x_4 = bc_4 (bc_3 (bc_2 (bc_1 x))) 8 := by rw [ex_4]; first | done | (rfl)
  refine lv_lstore_n (lv' := [(0, .long (bc_4 (bc_3 (bc_2 (bc_1 x))) 8))]) hx hb d_Lo_bitCount_40 rfl hl (by decide) rfl (fun ls hl => ?_)
  refine lv_lload_n hx hb d_Lo_bitCount_41 rfl (lv_at hl 0 rfl) ?_
  refine lv_lload_n hx hb d_Lo_bitCount_42 rfl (lv_at hl 0 rfl) ?_
  refine lv_bipush (v := 16) hx hb d_Lo_bitCount_43 (by decide) ?_
  refine lv_lushr hx hb d_Lo_bitCount_45 rfl ?_
  refine lv_ladd hx hb d_Lo_bitCount_46 ?_
  refine lv_topl (fun x_5 ex_5 => ?_)
  obtain rfl : x_5 = bc_4 (bc_4 (bc_3 (bc_2 (bc_1 x))) 8) 16 := by rw [ex_5]; first | done | (rfl)
  refine lv_lstore_n (lv' := [(0, .long (bc_4 (bc_4 (bc_3 (bc_2 (bc_1 x))) 8) 16))]) hx hb d_Lo_bitCount_47 rfl hl (by decide) rfl (fun ls hl => ?_)
  refine lv_lload_n hx hb d_Lo_bitCount_48 rfl (lv_at hl 0 rfl) ?_
  refine lv_lload_n hx hb d_Lo_bitCount_49 rfl (lv_at hl 0 rfl) ?_
  refine lv_bipush (v := 32) hx hb d_Lo_bitCount_50 (by decide) ?_
  refine lv_lushr hx hb d_Lo_bitCount_52 rfl ?_
  refine lv_ladd hx hb d_Lo_bitCount_53 ?_
  refine lv_topl (fun x_6 ex_6 => ?_)
  obtain rfl : x_6 = bc_4 (bc_4 (bc_4 (bc_3 (bc_2 (bc_1 x))) 8) 16) 32 := by rw [ex_6]; first | done | (rfl)
  refine lv_lstore_n (lv' := [(0, .long (bc_4 (bc_4 (bc_4 (bc_3 (bc_2 (bc_1 x))) 8) 16) 32))]) hx hb d_Lo_bitCount_54 rfl hl (by decide) rfl (fun ls hl => ?_)
  refine lv_lload_n hx hb d_Lo_bitCount_55 rfl (lv_at hl 0 rfl) ?_
  refine lv_l2i hx hb d_Lo_bitCount_56 rfl ?_
  refine lv_bipush (v := 127) hx hb d_Lo_bitCount_57 (by decide) ?_
  refine lv_iand hx hb d_Lo_bitCount_59 ?_
  refine lv_topi (fun x_7 ex_7 => ?_)
  obtain rfl : x_7 = bc x := by rw [ex_7]; first | done | (rfl)
  exact W.iret (v := bc x) hx hb hr (fun t ht hW => ⟨⟨_, (), rfl, rfl, by rw [ht]; exact hP, va_K.moved hW.alike hK, hD⟩, hS.F ht⟩) hS.2.2 d_Lo_bitCount_60
end
section
/-! 29.read0.lean.txt -/
theorem gw_23 : (Jvm.Cond.initialized "java/lang/System") ∈ xg_1 := xg_s1 23 rfl rfl
theorem gw_190 : (Jvm.Cond.fieldLink "PatchStore$Form" (15 : Nat) "PatchStore$Stock" "from" "[I") ∈ xg_1 := xg_s1 190 rfl rfl
theorem gw_235 : (Jvm.Cond.fieldLink "PatchStore$Stock" (56 : Nat) "PatchStore$Stock" "patches" "I") ∈ xg_1 := xg_s1 235 rfl rfl
theorem gw_239 : (Jvm.Cond.fieldLink "PatchStore$Form" (21 : Nat) "PatchStore$Stock" "patches" "I") ∈ xg_1 := xg_s1 239 rfl rfl
theorem gw_762 : (Jvm.Cond.methodLink "PatchStore" (102 : Nat) ({ cls := "PatchStore$Intake", name := "settle", desc := "(LPatchStore$Repository;)I" } : Jvm.MethodName)) ∈ xg_1 := xg_s4 42 rfl rfl
theorem gw_763 : (Jvm.Cond.instanceMethod ({ cls := "PatchStore$Intake", name := "settle", desc := "(LPatchStore$Repository;)I" } : Jvm.MethodName)) ∈ xg_1 := xg_s4 43 rfl rfl
theorem gw_764 : (Jvm.Cond.selects "PatchStore$Intake" ({ cls := "PatchStore$Intake", name := "settle", desc := "(LPatchStore$Repository;)I" } : Jvm.MethodName) ({ cls := "PatchStore$Intake", name := "settle", desc := "(LPatchStore$Repository;)I" } : Jvm.MethodName)) ∈ xg_1 := xg_s4 44 rfl rfl
theorem gw_765 : (Jvm.Cond.code ({ cls := "PatchStore$Intake", name := "settle", desc := "(LPatchStore$Repository;)I" } : Jvm.MethodName) prog_4_method_2_code (3 : Nat) (Option.some Jvm.ClassFile.FieldType.int)) ∈ xg_1 := xg_s4 45 rfl rfl
theorem gw_766 : (Jvm.Cond.methodLink "PatchStore$Intake" (47 : Nat) ({ cls := "PatchStore$Form", name := "isKept", desc := "()Z" } : Jvm.MethodName)) ∈ xg_1 := xg_s4 46 rfl rfl
theorem gw_767 : (Jvm.Cond.instanceMethod ({ cls := "PatchStore$Form", name := "isKept", desc := "()Z" } : Jvm.MethodName)) ∈ xg_1 := xg_s4 47 rfl rfl
theorem gw_768 : (Jvm.Cond.selects "PatchStore$Form" ({ cls := "PatchStore$Form", name := "isKept", desc := "()Z" } : Jvm.MethodName) ({ cls := "PatchStore$Form", name := "isKept", desc := "()Z" } : Jvm.MethodName)) ∈ xg_1 := xg_s4 48 rfl rfl
theorem gw_769 : (Jvm.Cond.code ({ cls := "PatchStore$Form", name := "isKept", desc := "()Z" } : Jvm.MethodName) prog_3_method_3_code (5 : Nat) (Option.some Jvm.ClassFile.FieldType.boolean)) ∈ xg_1 := xg_s4 49 rfl rfl
theorem gw_951 : (Jvm.Cond.static ({ cls := "java/lang/System", name := "arraycopy", desc := "(Ljava/lang/Object;ILjava/lang/Object;II)V" } : Jvm.MethodName)) ∈ xg_1 := xg_s4 231 rfl rfl
theorem gw_952 : (Jvm.Cond.native ({ cls := "java/lang/System", name := "arraycopy", desc := "(Ljava/lang/Object;ILjava/lang/Object;II)V" } : Jvm.MethodName)) ∈ xg_1 := xg_s4 232 rfl rfl
theorem gw_970 : (Jvm.Cond.methodLink "PatchStore$Stock" (60 : Nat) ({ cls := "java/lang/System", name := "arraycopy", desc := "(Ljava/lang/Object;ILjava/lang/Object;II)V" } : Jvm.MethodName)) ∈ xg_1 := xg_s5 10 rfl rfl
theorem gw_1207 : (Jvm.Cond.methodLink "PatchStore" (144 : Nat) ({ cls := "PatchStore$Stock", name := "lay", desc := "([BI)V" } : Jvm.MethodName)) ∈ xg_1 := xg_s6 7 rfl rfl
theorem gw_1208 : (Jvm.Cond.instanceMethod ({ cls := "PatchStore$Stock", name := "lay", desc := "([BI)V" } : Jvm.MethodName)) ∈ xg_1 := xg_s6 8 rfl rfl
theorem gw_1209 : (Jvm.Cond.selects "PatchStore$Stock" ({ cls := "PatchStore$Stock", name := "lay", desc := "([BI)V" } : Jvm.MethodName) ({ cls := "PatchStore$Stock", name := "lay", desc := "([BI)V" } : Jvm.MethodName)) ∈ xg_1 := xg_s6 9 rfl rfl
theorem gw_1210 : (Jvm.Cond.code ({ cls := "PatchStore$Stock", name := "lay", desc := "([BI)V" } : Jvm.MethodName) prog_10_method_2_code (3 : Nat) (Option.none : Option Jvm.ClassFile.FieldType)) ∈ xg_1 := xg_s6 10 rfl rfl
def y_St_lay : MethodName := ⟨"PatchStore$Stock", "lay", "([BI)V"⟩
abbrev c_St_lay : Cond := (Jvm.Cond.code ({ cls := "PatchStore$Stock", name := "lay", desc := "([BI)V" } : Jvm.MethodName) prog_10_method_2_code (3 : Nat) (Option.none : Option Jvm.ClassFile.FieldType))
abbrev ws_St_lay : List Cond := c_St_lay :: xg_1
theorem d_St_lay_0 : decode prog_10_method_2_code 0 = .ok (.aload_n 1, 1) := by decide +kernel
theorem d_St_lay_1 : decode prog_10_method_2_code 1 = .ok (.iconst 0, 1) := by decide +kernel
theorem d_St_lay_2 : decode prog_10_method_2_code 2 = .ok (.aload_n 0, 1) := by decide +kernel
theorem d_St_lay_3 : decode prog_10_method_2_code 3 = .ok (.getfield 10, 3) := by decide +kernel
theorem d_St_lay_6 : decode prog_10_method_2_code 6 = .ok (.aload_n 0, 1) := by decide +kernel
theorem d_St_lay_7 : decode prog_10_method_2_code 7 = .ok (.getfield 16, 3) := by decide +kernel
theorem d_St_lay_10 : decode prog_10_method_2_code 10 = .ok (.aload_n 0, 1) := by decide +kernel
theorem d_St_lay_11 : decode prog_10_method_2_code 11 = .ok (.getfield 56, 3) := by decide +kernel
theorem d_St_lay_14 : decode prog_10_method_2_code 14 = .ok (.iaload, 1) := by decide +kernel
theorem d_St_lay_15 : decode prog_10_method_2_code 15 = .ok (.iload_n 2, 1) := by decide +kernel
theorem d_St_lay_16 : decode prog_10_method_2_code 16 = .ok (.invokestatic 60, 3) := by decide +kernel
theorem d_St_lay_19 : decode prog_10_method_2_code 19 = .ok (.aload_n 0, 1) := by decide +kernel
theorem d_St_lay_20 : decode prog_10_method_2_code 20 = .ok (.getfield 16, 3) := by decide +kernel
theorem d_St_lay_23 : decode prog_10_method_2_code 23 = .ok (.aload_n 0, 1) := by decide +kernel
theorem d_St_lay_24 : decode prog_10_method_2_code 24 = .ok (.getfield 56, 3) := by decide +kernel
theorem d_St_lay_27 : decode prog_10_method_2_code 27 = .ok (.iconst 1, 1) := by decide +kernel
theorem d_St_lay_28 : decode prog_10_method_2_code 28 = .ok (.iadd, 1) := by decide +kernel
theorem d_St_lay_29 : decode prog_10_method_2_code 29 = .ok (.aload_n 0, 1) := by decide +kernel
theorem d_St_lay_30 : decode prog_10_method_2_code 30 = .ok (.getfield 16, 3) := by decide +kernel
theorem d_St_lay_33 : decode prog_10_method_2_code 33 = .ok (.aload_n 0, 1) := by decide +kernel
theorem d_St_lay_34 : decode prog_10_method_2_code 34 = .ok (.getfield 56, 3) := by decide +kernel
theorem d_St_lay_37 : decode prog_10_method_2_code 37 = .ok (.iaload, 1) := by decide +kernel
theorem d_St_lay_38 : decode prog_10_method_2_code 38 = .ok (.iload_n 2, 1) := by decide +kernel
theorem d_St_lay_39 : decode prog_10_method_2_code 39 = .ok (.iadd, 1) := by decide +kernel
theorem d_St_lay_40 : decode prog_10_method_2_code 40 = .ok (.iastore, 1) := by decide +kernel
theorem d_St_lay_41 : decode prog_10_method_2_code 41 = .ok (.return_, 1) := by decide +kernel
def y_Fo_isKept : MethodName := ⟨"PatchStore$Form", "isKept", "()Z"⟩
abbrev c_Fo_isKept : Cond := (Jvm.Cond.code ({ cls := "PatchStore$Form", name := "isKept", desc := "()Z" } : Jvm.MethodName) prog_3_method_3_code (5 : Nat) (Option.some Jvm.ClassFile.FieldType.boolean))
abbrev ws_Fo_isKept : List Cond := c_Fo_isKept :: xg_1
theorem d_Fo_isKept_0 : decode prog_3_method_3_code 0 = .ok (.aload_n 0, 1) := by decide +kernel
theorem d_Fo_isKept_1 : decode prog_3_method_3_code 1 = .ok (.getfield 9, 3) := by decide +kernel
theorem d_Fo_isKept_4 : decode prog_3_method_3_code 4 = .ok (.getfield 15, 3) := by decide +kernel
theorem d_Fo_isKept_7 : decode prog_3_method_3_code 7 = .ok (.aload_n 0, 1) := by decide +kernel
theorem d_Fo_isKept_8 : decode prog_3_method_3_code 8 = .ok (.getfield 9, 3) := by decide +kernel
theorem d_Fo_isKept_11 : decode prog_3_method_3_code 11 = .ok (.getfield 21, 3) := by decide +kernel
theorem d_Fo_isKept_14 : decode prog_3_method_3_code 14 = .ok (.iaload, 1) := by decide +kernel
theorem d_Fo_isKept_15 : decode prog_3_method_3_code 15 = .ok (.istore_n 1, 1) := by decide +kernel
theorem d_Fo_isKept_16 : decode prog_3_method_3_code 16 = .ok (.aload_n 0, 1) := by decide +kernel
theorem d_Fo_isKept_17 : decode prog_3_method_3_code 17 = .ok (.getfield 9, 3) := by decide +kernel
theorem d_Fo_isKept_20 : decode prog_3_method_3_code 20 = .ok (.getfield 15, 3) := by decide +kernel
theorem d_Fo_isKept_23 : decode prog_3_method_3_code 23 = .ok (.aload_n 0, 1) := by decide +kernel
theorem d_Fo_isKept_24 : decode prog_3_method_3_code 24 = .ok (.getfield 9, 3) := by decide +kernel
theorem d_Fo_isKept_27 : decode prog_3_method_3_code 27 = .ok (.getfield 21, 3) := by decide +kernel
theorem d_Fo_isKept_30 : decode prog_3_method_3_code 30 = .ok (.iconst 1, 1) := by decide +kernel
theorem d_Fo_isKept_31 : decode prog_3_method_3_code 31 = .ok (.iadd, 1) := by decide +kernel
theorem d_Fo_isKept_32 : decode prog_3_method_3_code 32 = .ok (.iaload, 1) := by decide +kernel
theorem d_Fo_isKept_33 : decode prog_3_method_3_code 33 = .ok (.istore_n 2, 1) := by decide +kernel
theorem d_Fo_isKept_34 : decode prog_3_method_3_code 34 = .ok (.iload_n 1, 1) := by decide +kernel
theorem d_Fo_isKept_35 : decode prog_3_method_3_code 35 = .ok (.iconst 4, 1) := by decide +kernel
theorem d_Fo_isKept_36 : decode prog_3_method_3_code 36 = .ok (.iadd, 1) := by decide +kernel
theorem d_Fo_isKept_37 : decode prog_3_method_3_code 37 = .ok (.iload_n 2, 1) := by decide +kernel
theorem d_Fo_isKept_38 : decode prog_3_method_3_code 38 = .ok (.if_icmp .le 5, 3) := by decide +kernel
theorem d_Fo_isKept_41 : decode prog_3_method_3_code 41 = .ok (.iconst 0, 1) := by decide +kernel
theorem d_Fo_isKept_42 : decode prog_3_method_3_code 42 = .ok (.ireturn, 1) := by decide +kernel
theorem d_Fo_isKept_43 : decode prog_3_method_3_code 43 = .ok (.aload_n 0, 1) := by decide +kernel
theorem d_Fo_isKept_44 : decode prog_3_method_3_code 44 = .ok (.getfield 9, 3) := by decide +kernel
theorem d_Fo_isKept_47 : decode prog_3_method_3_code 47 = .ok (.iload_n 1, 1) := by decide +kernel
theorem d_Fo_isKept_48 : decode prog_3_method_3_code 48 = .ok (.invokevirtual 25, 3) := by decide +kernel
theorem d_Fo_isKept_51 : decode prog_3_method_3_code 51 = .ok (.istore_n 3, 1) := by decide +kernel
theorem d_Fo_isKept_52 : decode prog_3_method_3_code 52 = .ok (.iload_n 1, 1) := by decide +kernel
theorem d_Fo_isKept_53 : decode prog_3_method_3_code 53 = .ok (.iconst 2, 1) := by decide +kernel
theorem d_Fo_isKept_54 : decode prog_3_method_3_code 54 = .ok (.iadd, 1) := by decide +kernel
theorem d_Fo_isKept_55 : decode prog_3_method_3_code 55 = .ok (.iload_n 3, 1) := by decide +kernel
theorem d_Fo_isKept_56 : decode prog_3_method_3_code 56 = .ok (.bipush 32, 2) := by decide +kernel
theorem d_Fo_isKept_58 : decode prog_3_method_3_code 58 = .ok (.imul, 1) := by decide +kernel
theorem d_Fo_isKept_59 : decode prog_3_method_3_code 59 = .ok (.iadd, 1) := by decide +kernel
theorem d_Fo_isKept_60 : decode prog_3_method_3_code 60 = .ok (.istore 4, 2) := by decide +kernel
theorem d_Fo_isKept_62 : decode prog_3_method_3_code 62 = .ok (.iload 4, 2) := by decide +kernel
theorem d_Fo_isKept_64 : decode prog_3_method_3_code 64 = .ok (.iconst 2, 1) := by decide +kernel
theorem d_Fo_isKept_65 : decode prog_3_method_3_code 65 = .ok (.iadd, 1) := by decide +kernel
theorem d_Fo_isKept_66 : decode prog_3_method_3_code 66 = .ok (.iload_n 2, 1) := by decide +kernel
theorem d_Fo_isKept_67 : decode prog_3_method_3_code 67 = .ok (.if_icmp .gt 29, 3) := by decide +kernel
theorem d_Fo_isKept_70 : decode prog_3_method_3_code 70 = .ok (.aload_n 0, 1) := by decide +kernel
theorem d_Fo_isKept_71 : decode prog_3_method_3_code 71 = .ok (.iload_n 1, 1) := by decide +kernel
theorem d_Fo_isKept_72 : decode prog_3_method_3_code 72 = .ok (.iconst 2, 1) := by decide +kernel
theorem d_Fo_isKept_73 : decode prog_3_method_3_code 73 = .ok (.iadd, 1) := by decide +kernel
theorem d_Fo_isKept_74 : decode prog_3_method_3_code 74 = .ok (.iload_n 3, 1) := by decide +kernel
theorem d_Fo_isKept_75 : decode prog_3_method_3_code 75 = .ok (.invokevirtual 29, 3) := by decide +kernel
theorem d_Fo_isKept_78 : decode prog_3_method_3_code 78 = .ok (.ifCond .eq 18, 3) := by decide +kernel
theorem d_Fo_isKept_81 : decode prog_3_method_3_code 81 = .ok (.aload_n 0, 1) := by decide +kernel
theorem d_Fo_isKept_82 : decode prog_3_method_3_code 82 = .ok (.iload 4, 2) := by decide +kernel
theorem d_Fo_isKept_84 : decode prog_3_method_3_code 84 = .ok (.iload_n 2, 1) := by decide +kernel
theorem d_Fo_isKept_85 : decode prog_3_method_3_code 85 = .ok (.invokevirtual 33, 3) := by decide +kernel
theorem d_Fo_isKept_88 : decode prog_3_method_3_code 88 = .ok (.iload_n 2, 1) := by decide +kernel
theorem d_Fo_isKept_89 : decode prog_3_method_3_code 89 = .ok (.if_icmp .ne 7, 3) := by decide +kernel
theorem d_Fo_isKept_92 : decode prog_3_method_3_code 92 = .ok (.iconst 1, 1) := by decide +kernel
theorem d_Fo_isKept_93 : decode prog_3_method_3_code 93 = .ok (.goto 4, 3) := by decide +kernel
theorem d_Fo_isKept_96 : decode prog_3_method_3_code 96 = .ok (.iconst 0, 1) := by decide +kernel
theorem d_Fo_isKept_97 : decode prog_3_method_3_code 97 = .ok (.ireturn, 1) := by decide +kernel
def y_In_settle : MethodName := ⟨"PatchStore$Intake", "settle", "(LPatchStore$Repository;)I"⟩
abbrev c_In_settle : Cond := (Jvm.Cond.code ({ cls := "PatchStore$Intake", name := "settle", desc := "(LPatchStore$Repository;)I" } : Jvm.MethodName) prog_4_method_2_code (3 : Nat) (Option.some Jvm.ClassFile.FieldType.int))
abbrev ws_In_settle : List Cond := c_In_settle :: xg_1
theorem d_In_settle_0 : decode prog_4_method_2_code 0 = .ok (.aload_n 0, 1) := by decide +kernel
theorem d_In_settle_1 : decode prog_4_method_2_code 1 = .ok (.getfield 43, 3) := by decide +kernel
theorem d_In_settle_4 : decode prog_4_method_2_code 4 = .ok (.invokevirtual 47, 3) := by decide +kernel
theorem d_In_settle_7 : decode prog_4_method_2_code 7 = .ok (.ifCond .ne 5, 3) := by decide +kernel
theorem d_In_settle_10 : decode prog_4_method_2_code 10 = .ok (.iconst (-1), 1) := by decide +kernel
theorem d_In_settle_11 : decode prog_4_method_2_code 11 = .ok (.ireturn, 1) := by decide +kernel
theorem d_In_settle_12 : decode prog_4_method_2_code 12 = .ok (.aload_n 0, 1) := by decide +kernel
theorem d_In_settle_13 : decode prog_4_method_2_code 13 = .ok (.aload_n 1, 1) := by decide +kernel
theorem d_In_settle_14 : decode prog_4_method_2_code 14 = .ok (.invokevirtual 51, 3) := by decide +kernel
theorem d_In_settle_17 : decode prog_4_method_2_code 17 = .ok (.ifCond .ne 6, 3) := by decide +kernel
theorem d_In_settle_20 : decode prog_4_method_2_code 20 = .ok (.bipush (-2), 2) := by decide +kernel
theorem d_In_settle_22 : decode prog_4_method_2_code 22 = .ok (.ireturn, 1) := by decide +kernel
theorem d_In_settle_23 : decode prog_4_method_2_code 23 = .ok (.aload_n 0, 1) := by decide +kernel
theorem d_In_settle_24 : decode prog_4_method_2_code 24 = .ok (.invokevirtual 55, 3) := by decide +kernel
theorem d_In_settle_27 : decode prog_4_method_2_code 27 = .ok (.istore_n 2, 1) := by decide +kernel
theorem d_In_settle_28 : decode prog_4_method_2_code 28 = .ok (.iload_n 2, 1) := by decide +kernel
theorem d_In_settle_29 : decode prog_4_method_2_code 29 = .ok (.iconst (-1), 1) := by decide +kernel
theorem d_In_settle_30 : decode prog_4_method_2_code 30 = .ok (.if_icmp .eq 25, 3) := by decide +kernel
theorem d_In_settle_33 : decode prog_4_method_2_code 33 = .ok (.aload_n 1, 1) := by decide +kernel
theorem d_In_settle_34 : decode prog_4_method_2_code 34 = .ok (.aload_n 0, 1) := by decide +kernel
theorem d_In_settle_35 : decode prog_4_method_2_code 35 = .ok (.getfield 18, 3) := by decide +kernel
theorem d_In_settle_38 : decode prog_4_method_2_code 38 = .ok (.getfield 59, 3) := by decide +kernel
theorem d_In_settle_41 : decode prog_4_method_2_code 41 = .ok (.iload_n 2, 1) := by decide +kernel
theorem d_In_settle_42 : decode prog_4_method_2_code 42 = .ok (.invokevirtual 63, 3) := by decide +kernel
theorem d_In_settle_45 : decode prog_4_method_2_code 45 = .ok (.ifCond .eq 7, 3) := by decide +kernel
theorem d_In_settle_48 : decode prog_4_method_2_code 48 = .ok (.iload_n 2, 1) := by decide +kernel
theorem d_In_settle_49 : decode prog_4_method_2_code 49 = .ok (.goto 5, 3) := by decide +kernel
theorem d_In_settle_52 : decode prog_4_method_2_code 52 = .ok (.bipush (-2), 2) := by decide +kernel
theorem d_In_settle_54 : decode prog_4_method_2_code 54 = .ok (.ireturn, 1) := by decide +kernel
theorem d_In_settle_55 : decode prog_4_method_2_code 55 = .ok (.aload_n 0, 1) := by decide +kernel
theorem d_In_settle_56 : decode prog_4_method_2_code 56 = .ok (.invokevirtual 69, 3) := by decide +kernel
theorem d_In_settle_59 : decode prog_4_method_2_code 59 = .ok (.ifCond .ne 6, 3) := by decide +kernel
theorem d_In_settle_62 : decode prog_4_method_2_code 62 = .ok (.bipush (-3), 2) := by decide +kernel
theorem d_In_settle_64 : decode prog_4_method_2_code 64 = .ok (.ireturn, 1) := by decide +kernel
theorem d_In_settle_65 : decode prog_4_method_2_code 65 = .ok (.aload_n 0, 1) := by decide +kernel
theorem d_In_settle_66 : decode prog_4_method_2_code 66 = .ok (.invokevirtual 72, 3) := by decide +kernel
theorem d_In_settle_69 : decode prog_4_method_2_code 69 = .ok (.ifCond .ne 6, 3) := by decide +kernel
theorem d_In_settle_72 : decode prog_4_method_2_code 72 = .ok (.bipush (-4), 2) := by decide +kernel
theorem d_In_settle_74 : decode prog_4_method_2_code 74 = .ok (.ireturn, 1) := by decide +kernel
theorem d_In_settle_75 : decode prog_4_method_2_code 75 = .ok (.aload_n 0, 1) := by decide +kernel
theorem d_In_settle_76 : decode prog_4_method_2_code 76 = .ok (.invokevirtual 75, 3) := by decide +kernel
theorem d_In_settle_79 : decode prog_4_method_2_code 79 = .ok (.ifCond .eq 6, 3) := by decide +kernel
theorem d_In_settle_82 : decode prog_4_method_2_code 82 = .ok (.bipush (-5), 2) := by decide +kernel
theorem d_In_settle_84 : decode prog_4_method_2_code 84 = .ok (.ireturn, 1) := by decide +kernel
theorem d_In_settle_85 : decode prog_4_method_2_code 85 = .ok (.aload_n 0, 1) := by decide +kernel
theorem d_In_settle_86 : decode prog_4_method_2_code 86 = .ok (.invokevirtual 78, 3) := by decide +kernel
theorem d_In_settle_89 : decode prog_4_method_2_code 89 = .ok (.aload_n 0, 1) := by decide +kernel
theorem d_In_settle_90 : decode prog_4_method_2_code 90 = .ok (.getfield 18, 3) := by decide +kernel
theorem d_In_settle_93 : decode prog_4_method_2_code 93 = .ok (.invokevirtual 81, 3) := by decide +kernel
theorem d_In_settle_96 : decode prog_4_method_2_code 96 = .ok (.aload_n 0, 1) := by decide +kernel
theorem d_In_settle_97 : decode prog_4_method_2_code 97 = .ok (.getfield 18, 3) := by decide +kernel
theorem d_In_settle_100 : decode prog_4_method_2_code 100 = .ok (.getfield 84, 3) := by decide +kernel
theorem d_In_settle_103 : decode prog_4_method_2_code 103 = .ok (.iconst 1, 1) := by decide +kernel
theorem d_In_settle_104 : decode prog_4_method_2_code 104 = .ok (.isub, 1) := by decide +kernel
theorem d_In_settle_105 : decode prog_4_method_2_code 105 = .ok (.ireturn, 1) := by decide +kernel
def y_PS_read : MethodName := ⟨"PatchStore", "read", "(I)I"⟩
abbrev c_PS_read : Cond := (Jvm.Cond.code ({ cls := "PatchStore", name := "read", desc := "(I)I" } : Jvm.MethodName) prog_1_method_7_code (4 : Nat) (Option.some Jvm.ClassFile.FieldType.int))
abbrev ws_PS_read : List Cond := c_PS_read :: xg_1
theorem d_PS_read_0 : decode prog_1_method_7_code 0 = .ok (.aload_n 0, 1) := by decide +kernel
theorem d_PS_read_1 : decode prog_1_method_7_code 1 = .ok (.iconst 0, 1) := by decide +kernel
theorem d_PS_read_2 : decode prog_1_method_7_code 2 = .ok (.putfield 141, 3) := by decide +kernel
theorem d_PS_read_5 : decode prog_1_method_7_code 5 = .ok (.aload_n 0, 1) := by decide +kernel
theorem d_PS_read_6 : decode prog_1_method_7_code 6 = .ok (.iload_n 1, 1) := by decide +kernel
theorem d_PS_read_7 : decode prog_1_method_7_code 7 = .ok (.invokevirtual 90, 3) := by decide +kernel
theorem d_PS_read_10 : decode prog_1_method_7_code 10 = .ok (.astore_n 2, 1) := by decide +kernel
theorem d_PS_read_11 : decode prog_1_method_7_code 11 = .ok (.aload_n 0, 1) := by decide +kernel
theorem d_PS_read_12 : decode prog_1_method_7_code 12 = .ok (.getfield 30, 3) := by decide +kernel
theorem d_PS_read_15 : decode prog_1_method_7_code 15 = .ok (.aload_n 0, 1) := by decide +kernel
theorem d_PS_read_16 : decode prog_1_method_7_code 16 = .ok (.getfield 10, 3) := by decide +kernel
theorem d_PS_read_19 : decode prog_1_method_7_code 19 = .ok (.aload_n 0, 1) := by decide +kernel
theorem d_PS_read_20 : decode prog_1_method_7_code 20 = .ok (.getfield 76, 3) := by decide +kernel
theorem d_PS_read_23 : decode prog_1_method_7_code 23 = .ok (.invokevirtual 144, 3) := by decide +kernel
theorem d_PS_read_26 : decode prog_1_method_7_code 26 = .ok (.aload_n 0, 1) := by decide +kernel
theorem d_PS_read_27 : decode prog_1_method_7_code 27 = .ok (.getfield 39, 3) := by decide +kernel
theorem d_PS_read_30 : decode prog_1_method_7_code 30 = .ok (.aload_n 2, 1) := by decide +kernel
theorem d_PS_read_31 : decode prog_1_method_7_code 31 = .ok (.invokevirtual 102, 3) := by decide +kernel
theorem d_PS_read_34 : decode prog_1_method_7_code 34 = .ok (.istore_n 3, 1) := by decide +kernel
theorem d_PS_read_35 : decode prog_1_method_7_code 35 = .ok (.iload_n 3, 1) := by decide +kernel
theorem d_PS_read_36 : decode prog_1_method_7_code 36 = .ok (.ifCond .ge 23, 3) := by decide +kernel
theorem d_PS_read_39 : decode prog_1_method_7_code 39 = .ok (.iload_n 3, 1) := by decide +kernel
theorem d_PS_read_40 : decode prog_1_method_7_code 40 = .ok (.bipush (-5), 2) := by decide +kernel
theorem d_PS_read_42 : decode prog_1_method_7_code 42 = .ok (.if_icmp .eq 17, 3) := by decide +kernel
theorem d_PS_read_45 : decode prog_1_method_7_code 45 = .ok (.aload_n 0, 1) := by decide +kernel
theorem d_PS_read_46 : decode prog_1_method_7_code 46 = .ok (.iload_n 3, 1) := by decide +kernel
theorem d_PS_read_47 : decode prog_1_method_7_code 47 = .ok (.ineg, 1) := by decide +kernel
theorem d_PS_read_48 : decode prog_1_method_7_code 48 = .ok (.putfield 141, 3) := by decide +kernel
theorem d_PS_read_51 : decode prog_1_method_7_code 51 = .ok (.new 87, 3) := by decide +kernel
theorem d_PS_read_54 : decode prog_1_method_7_code 54 = .ok (.dup, 1) := by decide +kernel
theorem d_PS_read_55 : decode prog_1_method_7_code 55 = .ok (.invokespecial 89, 3) := by decide +kernel
theorem d_PS_read_58 : decode prog_1_method_7_code 58 = .ok (.athrow, 1) := by decide +kernel
theorem d_PS_read_59 : decode prog_1_method_7_code 59 = .ok (.aload_n 0, 1) := by decide +kernel
theorem d_PS_read_60 : decode prog_1_method_7_code 60 = .ok (.aload_n 2, 1) := by decide +kernel
theorem d_PS_read_61 : decode prog_1_method_7_code 61 = .ok (.iload_n 3, 1) := by decide +kernel
theorem d_PS_read_62 : decode prog_1_method_7_code 62 = .ok (.invokevirtual 106, 3) := by decide +kernel
theorem d_PS_read_65 : decode prog_1_method_7_code 65 = .ok (.ireturn, 1) := by decide +kernel
set_option maxHeartbeats 4000000 in
set_option maxRecDepth 100000 in
/-- Stock.lay -/
theorem m_St_lay (l : Launch) (dC : Nat → ClassId) (dI : Nat → Nat → Nat) (cI cB cL cZ cR : ClassId) (h b_y fr ta : Nat) (sk_firstDependency sk_firstChange sk_dependencies sk_hashes sk_byHash sk_leansOn sk_leantBy sk_changes sk_lines : Value) (NB NF NT a L pn : Nat) (bf ff tf : Nat → Int32) (sz : Nat) (hff : ff pn = nI a) (hNB : NB < 2 ^ 31) (haL : a + L ≤ NB) (hNT : NT < 2 ^ 31) (hLT : L ≤ NT) (hNF : NF < 2 ^ 31) (hpn : pn + 1 < NF) (hfit : ∀ i, i < L → fits .byte (.int (tf (0 + i))) = true) : Met l y_St_lay ws_St_lay ({ frames := 1, cells := 0, slots := 0, locals := 60 }) (xw_Pc dC dI [(cI, .int), (cB, .byte), (cL, .long), (cZ, .boolean), (cR, .object "PatchStore$Repository")] [.ref h, .ref ta, .int (nI L)] [(h, .inr (9, [.ref b_y, .ref fr, sk_firstDependency, sk_firstChange, sk_dependencies, sk_hashes, sk_byHash, sk_leansOn, sk_leantBy, sk_changes, sk_lines, .int (nI pn)])), (b_y, .inl (cB, NB, .inl bf)), (fr, .inl (cI, NF, .inl ff)), (ta, .inl (cB, NT, .inl tf))] sz) (va_Qv (fun _ : Unit => True) (fun _ t => xw_B dC dI [(cI, .int), (cB, .byte), (cL, .long), (cZ, .boolean), (cR, .object "PatchStore$Repository")] (va_A [(h, .inr (9, [.ref b_y, .ref fr, sk_firstDependency, sk_firstChange, sk_dependencies, sk_hashes, sk_byHash, sk_leansOn, sk_leantBy, sk_changes, sk_lines, .int (nI pn)])), (b_y, .inl (cB, NB, .inl bf)), (fr, .inl (cI, NF, .inl ff)), (ta, .inl (cB, NT, .inl tf))] sz) [(h, .inr (9, [.ref b_y, .ref fr, sk_firstDependency, sk_firstChange, sk_dependencies, sk_hashes, sk_byHash, sk_leansOn, sk_leantBy, sk_changes, sk_lines, .int (nI pn)])), (b_y, .inl (cB, NB, .inl (va_cpy tf bf 0 a L))), (fr, .inl (cI, NF, .inl (upd ff (pn + 1) (nI (a + L))))), (ta, .inl (cB, NT, .inl tf))] t) (va_A [(h, .inr (9, [.ref b_y, .ref fr, sk_firstDependency, sk_firstChange, sk_dependencies, sk_hashes, sk_byHash, sk_leansOn, sk_leantBy, sk_changes, sk_lines, .int (nI pn)])), (b_y, .inl (cB, NB, .inl bf)), (fr, .inl (cI, NF, .inl ff)), (ta, .inl (cB, NT, .inl tf))] sz)) 0 0 (va_A [(h, .inr (9, [.ref b_y, .ref fr, sk_firstDependency, sk_firstChange, sk_dependencies, sk_hashes, sk_byHash, sk_leansOn, sk_leantBy, sk_changes, sk_lines, .int (nI pn)])), (b_y, .inl (cB, NB, .inl bf)), (fr, .inl (cI, NF, .inl ff)), (ta, .inl (cB, NT, .inl tf))] sz) := by
  refine Met.ofW (cc := prog_10_method_2_code) (maxL := 3) (ret := none) (by decide) rfl ?_
  intro p e s m args below meth c s₁ B hml hv
  obtain ⟨rfl, hsz, hP, hK, hD0⟩ := hv
  have hx := B.exec
  have hb := B.bytes
  have hr := B.returns
  have hts0 := atoms_spec (ws := ws_St_lay) B.pre
  have hts : ∀ w ∈ xg_1, w.before _ s = true := fun w h => hts0 w (List.mem_cons_of_mem _ h)
  have hown : s.vm.findClass "PatchStore$Stock" = some m.cls := findClass_of_methodNamed B.named
  have hlocks := B.notSynchronized
  subst hsz
  have hD := hD0.self (sz := s.heap.size)
  generalize hAe : va_A [(h, .inr (9, [.ref b_y, .ref fr, sk_firstDependency, sk_firstChange, sk_dependencies, sk_hashes, sk_byHash, sk_leansOn, sk_leantBy, sk_changes, sk_lines, .int (nI pn)])), (b_y, .inl (cB, NB, .inl bf)), (fr, .inl (cI, NF, .inl ff)), (ta, .inl (cB, NT, .inl tf))] s.heap.size = A at hD ⊢
  have hA : ∀ q : Nat, s.heap.size ≤ q → A q := fun q h => by rw [← hAe]; exact Or.inr h
  have hS : va_S A s.heap s.heap [] := va_S.rf
  have hl := lv_entry ([.ref h, .ref ta, .int (nI L)]) (n := 3) (Nat.le_of_ble_eq_true rfl)
  rw [lg_entry_eq]
  generalize (lg_sl ([.ref h, .ref ta, .int (nI L)]) ++ List.replicate (3 - (lg_sl ([.ref h, .ref ta, .int (nI L)])).length) Slot.unset).toArray = ls at hl ⊢
  have hl : lv_has ls 3 [(0, .ref h), (1, .ref ta), (2, .int (nI L))] := hl
  refine lv_aload_n hx hb d_St_lay_0 rfl (lv_at hl 1 rfl) ?_
  refine lv_iconst (v := 0) hx hb d_St_lay_1 (by decide) ?_
  refine lv_aload_n hx hb d_St_lay_2 rfl (lv_at hl 0 rfl) ?_
  refine va_get (D := (dC, dI)) (ci := 9) (v := .ref b_y) (C := R_St) (T := F_St) (N := 12) hx hb hts i_St hown hK hP 0 rfl rfl 0 (by decide) (hts _ gw_182) (fun _ h9 => h9) rfl d_St_lay_3 ?_
  refine lv_aload_n hx hb d_St_lay_6 rfl (lv_at hl 0 rfl) ?_
  refine va_get (D := (dC, dI)) (ci := 9) (v := .ref fr) (C := R_St) (T := F_St) (N := 12) hx hb hts i_St hown hK hP 0 rfl rfl 1 (by decide) (hts _ gw_189) (fun _ h9 => h9) rfl d_St_lay_7 ?_
  refine lv_aload_n hx hb d_St_lay_10 rfl (lv_at hl 0 rfl) ?_
  refine va_get (D := (dC, dI)) (ci := 9) (v := .int (nI pn)) (C := R_St) (T := F_St) (N := 12) hx hb hts i_St hown hK hP 0 rfl rfl 11 (by decide) (hts _ gw_235) (fun _ h9 => h9) rfl d_St_lay_11 ?_
  refine va_iald hx hb hK hP 2 0 rfl rfl (vp_in_nI (by omega) (by omega)) d_St_lay_14 ?_
  rw [show (nI pn).toNatClampNeg = pn from nI_clamp (by omega)]
  rw [hff]
  refine lv_iload_n hx hb d_St_lay_15 rfl (lv_at hl 2 rfl) ?_
  have cp1 : (0 : Int32).toNatClampNeg = 0 := rfl
  have cp2 : (nI a).toNatClampNeg = a := nI_clamp (by omega)
  have cp3 : (nI L).toNatClampNeg = L := nI_clamp (by omega)
  refine va_copyi hx hb (by rw [hml, hl.1]) hown (hts _ gw_970) (hts _ gw_952) (hts _ gw_951) (hts _ gw_23) hK hP hD hS 3 1 1 1 rfl rfl rfl rfl rfl (by decide) (nI_pos (by omega)) (nI_pos (by omega)) (by rw [cp1, cp3]; omega) (by rw [cp2, cp3]; omega) (by rw [cp1, cp3]; exact hfit) (Nat.le_of_ble_eq_true rfl) (Nat.le_of_ble_eq_true rfl) d_St_lay_16 (fun H locs hP hD hS => ?_)
  rw [cp1, cp2, cp3] at hP hD
  have hP : va_P (dC, dI) classes [(h, .inr (9, [.ref b_y, .ref fr, sk_firstDependency, sk_firstChange, sk_dependencies, sk_hashes, sk_byHash, sk_leansOn, sk_leantBy, sk_changes, sk_lines, .int (nI pn)])), (b_y, .inl (cB, NB, .inl (va_cpy tf bf 0 a L))), (fr, .inl (cI, NF, .inl ff)), (ta, .inl (cB, NT, .inl tf))] H := hP
  have hD : va_D A [(h, .inr (9, [.ref b_y, .ref fr, sk_firstDependency, sk_firstChange, sk_dependencies, sk_hashes, sk_byHash, sk_leansOn, sk_leantBy, sk_changes, sk_lines, .int (nI pn)])), (b_y, .inl (cB, NB, .inl (va_cpy tf bf 0 a L))), (fr, .inl (cI, NF, .inl ff)), (ta, .inl (cB, NT, .inl tf))] := hD
  refine lv_aload_n hx hb d_St_lay_19 rfl (lv_at hl 0 rfl) ?_
  refine va_get (D := (dC, dI)) (ci := 9) (v := .ref fr) (C := R_St) (T := F_St) (N := 12) hx hb hts i_St hown hK hP 0 rfl rfl 1 (by decide) (hts _ gw_189) (fun _ h9 => h9) rfl d_St_lay_20 ?_
  refine lv_aload_n hx hb d_St_lay_23 rfl (lv_at hl 0 rfl) ?_
  refine va_get (D := (dC, dI)) (ci := 9) (v := .int (nI pn)) (C := R_St) (T := F_St) (N := 12) hx hb hts i_St hown hK hP 0 rfl rfl 11 (by decide) (hts _ gw_235) (fun _ h9 => h9) rfl d_St_lay_24 ?_
  refine lv_iconst (v := 1) hx hb d_St_lay_27 (by decide) ?_
  refine lv_iadd hx hb d_St_lay_28 ?_
  refine lv_topi (fun x_1 ex_1 => ?_)
  obtain rfl : x_1 = nI (pn + 1) := by rw [ex_1]; first | done | (exact nI_add pn 1)
  refine lv_aload_n hx hb d_St_lay_29 rfl (lv_at hl 0 rfl) ?_
  refine va_get (D := (dC, dI)) (ci := 9) (v := .ref fr) (C := R_St) (T := F_St) (N := 12) hx hb hts i_St hown hK hP 0 rfl rfl 1 (by decide) (hts _ gw_189) (fun _ h9 => h9) rfl d_St_lay_30 ?_
  refine lv_aload_n hx hb d_St_lay_33 rfl (lv_at hl 0 rfl) ?_
  refine va_get (D := (dC, dI)) (ci := 9) (v := .int (nI pn)) (C := R_St) (T := F_St) (N := 12) hx hb hts i_St hown hK hP 0 rfl rfl 11 (by decide) (hts _ gw_235) (fun _ h9 => h9) rfl d_St_lay_34 ?_
  refine va_iald hx hb hK hP 2 0 rfl rfl (vp_in_nI (by omega) (by omega)) d_St_lay_37 ?_
  rw [show (nI pn).toNatClampNeg = pn from nI_clamp (by omega)]
  rw [hff]
  refine lv_iload_n hx hb d_St_lay_38 rfl (lv_at hl 2 rfl) ?_
  refine lv_iadd hx hb d_St_lay_39 ?_
  refine lv_topi (fun x_2 ex_2 => ?_)
  obtain rfl : x_2 = nI (a + L) := by rw [ex_2]; first | done | (exact nI_add a L)
  refine va_iast hx hb hK hP hD hS 2 0 rfl rfl (vp_in_nI (by omega) (by omega)) d_St_lay_40 (fun H locs hP hD hS => ?_)
  rw [show (nI (pn + 1)).toNatClampNeg = (pn + 1) from nI_clamp (by omega)] at hP hD
  have hP : va_P (dC, dI) classes [(h, .inr (9, [.ref b_y, .ref fr, sk_firstDependency, sk_firstChange, sk_dependencies, sk_hashes, sk_byHash, sk_leansOn, sk_leantBy, sk_changes, sk_lines, .int (nI pn)])), (b_y, .inl (cB, NB, .inl (va_cpy tf bf 0 a L))), (fr, .inl (cI, NF, .inl (upd ff (pn + 1) (nI (a + L))))), (ta, .inl (cB, NT, .inl tf))] H := hP
  have hD : va_D A [(h, .inr (9, [.ref b_y, .ref fr, sk_firstDependency, sk_firstChange, sk_dependencies, sk_hashes, sk_byHash, sk_leansOn, sk_leantBy, sk_changes, sk_lines, .int (nI pn)])), (b_y, .inl (cB, NB, .inl (va_cpy tf bf 0 a L))), (fr, .inl (cI, NF, .inl (upd ff (pn + 1) (nI (a + L))))), (ta, .inl (cB, NT, .inl tf))] := hD
  exact W.vret hx hb hr (fun t ht hW => ⟨⟨(), rfl, trivial, by rw [ht]; exact hP, va_K.moved hW.alike hK, hD⟩, hS.F ht⟩) hS.2.2 d_St_lay_41
end
