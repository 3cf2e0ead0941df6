/-! 26.ops0.lean.txt -/
theorem gw_991 : (Jvm.Cond.methodLink "PatchStore" (110 : Nat) ({ cls := "PatchStore", name := "fileAt", desc := "(LPatchStore$Repository;I)I" } : Jvm.MethodName)) ∈ xg_1 := xg_s5 31 rfl rfl
theorem gw_993 : (Jvm.Cond.instanceMethod ({ cls := "PatchStore", name := "fileAt", desc := "(LPatchStore$Repository;I)I" } : Jvm.MethodName)) ∈ xg_1 := xg_s5 33 rfl rfl
theorem gw_994 : (Jvm.Cond.code ({ cls := "PatchStore", name := "fileAt", desc := "(LPatchStore$Repository;I)I" } : Jvm.MethodName) prog_1_method_23_code (3 : Nat) (Option.some Jvm.ClassFile.FieldType.int)) ∈ xg_1 := xg_s5 34 rfl rfl
theorem gw_1218 : (Jvm.Cond.methodLink "PatchStore" (148 : Nat) ({ cls := "PatchStore", name := "checkPatch", desc := "(I)V" } : Jvm.MethodName)) ∈ xg_1 := xg_s6 18 rfl rfl
theorem gw_1220 : (Jvm.Cond.instanceMethod ({ cls := "PatchStore", name := "checkPatch", desc := "(I)V" } : Jvm.MethodName)) ∈ xg_1 := xg_s6 20 rfl rfl
theorem gw_1221 : (Jvm.Cond.code ({ cls := "PatchStore", name := "checkPatch", desc := "(I)V" } : Jvm.MethodName) prog_1_method_24_code (2 : Nat) (Option.none : Option Jvm.ClassFile.FieldType)) ∈ xg_1 := xg_s6 21 rfl rfl
def y_PS_call : MethodName := ⟨"PatchStore", "call", "(II)I"⟩
abbrev c_PS_call : Cond := (Jvm.Cond.code ({ cls := "PatchStore", name := "call", desc := "(II)I" } : Jvm.MethodName) prog_1_method_5_code (5 : Nat) (Option.some Jvm.ClassFile.FieldType.int))
abbrev ws_PS_call : List Cond := c_PS_call :: xg_1
theorem d_PS_call_0 : decode prog_1_method_5_code 0 = .ok (.aload_n 0, 1) := by decide +kernel
theorem d_PS_call_1 : decode prog_1_method_5_code 1 = .ok (.iload_n 1, 1) := by decide +kernel
theorem d_PS_call_2 : decode prog_1_method_5_code 2 = .ok (.invokevirtual 90, 3) := by decide +kernel
theorem d_PS_call_5 : decode prog_1_method_5_code 5 = .ok (.astore_n 3, 1) := by decide +kernel
theorem d_PS_call_6 : decode prog_1_method_5_code 6 = .ok (.aload_n 0, 1) := by decide +kernel
theorem d_PS_call_7 : decode prog_1_method_5_code 7 = .ok (.aload_n 3, 1) := by decide +kernel
theorem d_PS_call_8 : decode prog_1_method_5_code 8 = .ok (.iload_n 2, 1) := by decide +kernel
theorem d_PS_call_9 : decode prog_1_method_5_code 9 = .ok (.invokevirtual 110, 3) := by decide +kernel
theorem d_PS_call_12 : decode prog_1_method_5_code 12 = .ok (.istore 4, 2) := by decide +kernel
theorem d_PS_call_14 : decode prog_1_method_5_code 14 = .ok (.aload_n 0, 1) := by decide +kernel
theorem d_PS_call_15 : decode prog_1_method_5_code 15 = .ok (.getfield 76, 3) := by decide +kernel
theorem d_PS_call_18 : decode prog_1_method_5_code 18 = .ok (.ifCond .le 18, 3) := by decide +kernel
theorem d_PS_call_21 : decode prog_1_method_5_code 21 = .ok (.aload_n 0, 1) := by decide +kernel
theorem d_PS_call_22 : decode prog_1_method_5_code 22 = .ok (.invokevirtual 94, 3) := by decide +kernel
theorem d_PS_call_25 : decode prog_1_method_5_code 25 = .ok (.ifCond .ne 11, 3) := by decide +kernel
theorem d_PS_call_28 : decode prog_1_method_5_code 28 = .ok (.new 87, 3) := by decide +kernel
theorem d_PS_call_31 : decode prog_1_method_5_code 31 = .ok (.dup, 1) := by decide +kernel
theorem d_PS_call_32 : decode prog_1_method_5_code 32 = .ok (.invokespecial 89, 3) := by decide +kernel
theorem d_PS_call_35 : decode prog_1_method_5_code 35 = .ok (.athrow, 1) := by decide +kernel
theorem d_PS_call_36 : decode prog_1_method_5_code 36 = .ok (.aload_n 0, 1) := by decide +kernel
theorem d_PS_call_37 : decode prog_1_method_5_code 37 = .ok (.getfield 48, 3) := by decide +kernel
theorem d_PS_call_40 : decode prog_1_method_5_code 40 = .ok (.getfield 113, 3) := by decide +kernel
theorem d_PS_call_43 : decode prog_1_method_5_code 43 = .ok (.iload 4, 2) := by decide +kernel
theorem d_PS_call_45 : decode prog_1_method_5_code 45 = .ok (.iaload, 1) := by decide +kernel
theorem d_PS_call_46 : decode prog_1_method_5_code 46 = .ok (.sipush 255, 3) := by decide +kernel
theorem d_PS_call_49 : decode prog_1_method_5_code 49 = .ok (.if_icmp .le 11, 3) := by decide +kernel
theorem d_PS_call_52 : decode prog_1_method_5_code 52 = .ok (.new 80, 3) := by decide +kernel
theorem d_PS_call_55 : decode prog_1_method_5_code 55 = .ok (.dup, 1) := by decide +kernel
theorem d_PS_call_56 : decode prog_1_method_5_code 56 = .ok (.invokespecial 82, 3) := by decide +kernel
theorem d_PS_call_59 : decode prog_1_method_5_code 59 = .ok (.athrow, 1) := by decide +kernel
theorem d_PS_call_60 : decode prog_1_method_5_code 60 = .ok (.aload_n 0, 1) := by decide +kernel
theorem d_PS_call_61 : decode prog_1_method_5_code 61 = .ok (.getfield 62, 3) := by decide +kernel
theorem d_PS_call_64 : decode prog_1_method_5_code 64 = .ok (.aload_n 0, 1) := by decide +kernel
theorem d_PS_call_65 : decode prog_1_method_5_code 65 = .ok (.getfield 48, 3) := by decide +kernel
theorem d_PS_call_68 : decode prog_1_method_5_code 68 = .ok (.iload 4, 2) := by decide +kernel
theorem d_PS_call_70 : decode prog_1_method_5_code 70 = .ok (.aload_n 0, 1) := by decide +kernel
theorem d_PS_call_71 : decode prog_1_method_5_code 71 = .ok (.getfield 10, 3) := by decide +kernel
theorem d_PS_call_74 : decode prog_1_method_5_code 74 = .ok (.aload_n 0, 1) := by decide +kernel
theorem d_PS_call_75 : decode prog_1_method_5_code 75 = .ok (.getfield 76, 3) := by decide +kernel
theorem d_PS_call_78 : decode prog_1_method_5_code 78 = .ok (.invokevirtual 117, 3) := by decide +kernel
theorem d_PS_call_81 : decode prog_1_method_5_code 81 = .ok (.aload_n 0, 1) := by decide +kernel
theorem d_PS_call_82 : decode prog_1_method_5_code 82 = .ok (.aload_n 3, 1) := by decide +kernel
theorem d_PS_call_83 : decode prog_1_method_5_code 83 = .ok (.aload_n 0, 1) := by decide +kernel
theorem d_PS_call_84 : decode prog_1_method_5_code 84 = .ok (.getfield 39, 3) := by decide +kernel
theorem d_PS_call_87 : decode prog_1_method_5_code 87 = .ok (.aload_n 3, 1) := by decide +kernel
theorem d_PS_call_88 : decode prog_1_method_5_code 88 = .ok (.invokevirtual 102, 3) := by decide +kernel
theorem d_PS_call_91 : decode prog_1_method_5_code 91 = .ok (.invokevirtual 106, 3) := by decide +kernel
theorem d_PS_call_94 : decode prog_1_method_5_code 94 = .ok (.ireturn, 1) := by decide +kernel
def y_PS_record : MethodName := ⟨"PatchStore", "record", "(II)I"⟩
abbrev c_PS_record : Cond := (Jvm.Cond.code ({ cls := "PatchStore", name := "record", desc := "(II)I" } : Jvm.MethodName) prog_1_method_6_code (5 : Nat) (Option.some Jvm.ClassFile.FieldType.int))
abbrev ws_PS_record : List Cond := c_PS_record :: xg_1
theorem d_PS_record_0 : decode prog_1_method_6_code 0 = .ok (.aload_n 0, 1) := by decide +kernel
theorem d_PS_record_1 : decode prog_1_method_6_code 1 = .ok (.iload_n 1, 1) := by decide +kernel
theorem d_PS_record_2 : decode prog_1_method_6_code 2 = .ok (.invokevirtual 90, 3) := by decide +kernel
theorem d_PS_record_5 : decode prog_1_method_6_code 5 = .ok (.astore_n 3, 1) := by decide +kernel
theorem d_PS_record_6 : decode prog_1_method_6_code 6 = .ok (.aload_n 0, 1) := by decide +kernel
theorem d_PS_record_7 : decode prog_1_method_6_code 7 = .ok (.aload_n 3, 1) := by decide +kernel
theorem d_PS_record_8 : decode prog_1_method_6_code 8 = .ok (.iload_n 2, 1) := by decide +kernel
theorem d_PS_record_9 : decode prog_1_method_6_code 9 = .ok (.invokevirtual 110, 3) := by decide +kernel
theorem d_PS_record_12 : decode prog_1_method_6_code 12 = .ok (.istore 4, 2) := by decide +kernel
theorem d_PS_record_14 : decode prog_1_method_6_code 14 = .ok (.aload_n 0, 1) := by decide +kernel
theorem d_PS_record_15 : decode prog_1_method_6_code 15 = .ok (.getfield 71, 3) := by decide +kernel
theorem d_PS_record_18 : decode prog_1_method_6_code 18 = .ok (.aload_n 0, 1) := by decide +kernel
theorem d_PS_record_19 : decode prog_1_method_6_code 19 = .ok (.getfield 76, 3) := by decide +kernel
theorem d_PS_record_22 : decode prog_1_method_6_code 22 = .ok (.invokevirtual 121, 3) := by decide +kernel
theorem d_PS_record_25 : decode prog_1_method_6_code 25 = .ok (.ifCond .ne 11, 3) := by decide +kernel
theorem d_PS_record_28 : decode prog_1_method_6_code 28 = .ok (.new 87, 3) := by decide +kernel
theorem d_PS_record_31 : decode prog_1_method_6_code 31 = .ok (.dup, 1) := by decide +kernel
theorem d_PS_record_32 : decode prog_1_method_6_code 32 = .ok (.invokespecial 89, 3) := by decide +kernel
theorem d_PS_record_35 : decode prog_1_method_6_code 35 = .ok (.athrow, 1) := by decide +kernel
theorem d_PS_record_36 : decode prog_1_method_6_code 36 = .ok (.aload_n 0, 1) := by decide +kernel
theorem d_PS_record_37 : decode prog_1_method_6_code 37 = .ok (.getfield 55, 3) := by decide +kernel
theorem d_PS_record_40 : decode prog_1_method_6_code 40 = .ok (.aload_n 3, 1) := by decide +kernel
theorem d_PS_record_41 : decode prog_1_method_6_code 41 = .ok (.iload 4, 2) := by decide +kernel
theorem d_PS_record_43 : decode prog_1_method_6_code 43 = .ok (.invokevirtual 125, 3) := by decide +kernel
theorem d_PS_record_46 : decode prog_1_method_6_code 46 = .ok (.aload_n 0, 1) := by decide +kernel
theorem d_PS_record_47 : decode prog_1_method_6_code 47 = .ok (.getfield 55, 3) := by decide +kernel
theorem d_PS_record_50 : decode prog_1_method_6_code 50 = .ok (.getfield 129, 3) := by decide +kernel
theorem d_PS_record_53 : decode prog_1_method_6_code 53 = .ok (.sipush 200, 3) := by decide +kernel
theorem d_PS_record_56 : decode prog_1_method_6_code 56 = .ok (.if_icmp .gt 16, 3) := by decide +kernel
theorem d_PS_record_59 : decode prog_1_method_6_code 59 = .ok (.aload_n 0, 1) := by decide +kernel
theorem d_PS_record_60 : decode prog_1_method_6_code 60 = .ok (.getfield 71, 3) := by decide +kernel
theorem d_PS_record_63 : decode prog_1_method_6_code 63 = .ok (.getfield 132, 3) := by decide +kernel
theorem d_PS_record_66 : decode prog_1_method_6_code 66 = .ok (.sipush 200, 3) := by decide +kernel
theorem d_PS_record_69 : decode prog_1_method_6_code 69 = .ok (.if_icmp .le 11, 3) := by decide +kernel
theorem d_PS_record_72 : decode prog_1_method_6_code 72 = .ok (.new 135, 3) := by decide +kernel
theorem d_PS_record_75 : decode prog_1_method_6_code 75 = .ok (.dup, 1) := by decide +kernel
theorem d_PS_record_76 : decode prog_1_method_6_code 76 = .ok (.invokespecial 137, 3) := by decide +kernel
theorem d_PS_record_79 : decode prog_1_method_6_code 79 = .ok (.athrow, 1) := by decide +kernel
theorem d_PS_record_80 : decode prog_1_method_6_code 80 = .ok (.aload_n 0, 1) := by decide +kernel
theorem d_PS_record_81 : decode prog_1_method_6_code 81 = .ok (.getfield 71, 3) := by decide +kernel
theorem d_PS_record_84 : decode prog_1_method_6_code 84 = .ok (.iload 4, 2) := by decide +kernel
theorem d_PS_record_86 : decode prog_1_method_6_code 86 = .ok (.invokevirtual 138, 3) := by decide +kernel
theorem d_PS_record_89 : decode prog_1_method_6_code 89 = .ok (.ifCond .ne 10, 3) := by decide +kernel
theorem d_PS_record_92 : decode prog_1_method_6_code 92 = .ok (.aload_n 0, 1) := by decide +kernel
theorem d_PS_record_93 : decode prog_1_method_6_code 93 = .ok (.iconst 0, 1) := by decide +kernel
theorem d_PS_record_94 : decode prog_1_method_6_code 94 = .ok (.putfield 76, 3) := by decide +kernel
theorem d_PS_record_97 : decode prog_1_method_6_code 97 = .ok (.iconst (-1), 1) := by decide +kernel
theorem d_PS_record_98 : decode prog_1_method_6_code 98 = .ok (.ireturn, 1) := by decide +kernel
theorem d_PS_record_99 : decode prog_1_method_6_code 99 = .ok (.aload_n 0, 1) := by decide +kernel
theorem d_PS_record_100 : decode prog_1_method_6_code 100 = .ok (.aload_n 3, 1) := by decide +kernel
theorem d_PS_record_101 : decode prog_1_method_6_code 101 = .ok (.aload_n 0, 1) := by decide +kernel
theorem d_PS_record_102 : decode prog_1_method_6_code 102 = .ok (.getfield 39, 3) := by decide +kernel
theorem d_PS_record_105 : decode prog_1_method_6_code 105 = .ok (.aload_n 3, 1) := by decide +kernel
theorem d_PS_record_106 : decode prog_1_method_6_code 106 = .ok (.invokevirtual 102, 3) := by decide +kernel
theorem d_PS_record_109 : decode prog_1_method_6_code 109 = .ok (.invokevirtual 106, 3) := by decide +kernel
theorem d_PS_record_112 : decode prog_1_method_6_code 112 = .ok (.ireturn, 1) := by decide +kernel
def y_PS_file : MethodName := ⟨"PatchStore", "file", "(III)I"⟩
abbrev c_PS_file : Cond := (Jvm.Cond.code ({ cls := "PatchStore", name := "file", desc := "(III)I" } : Jvm.MethodName) prog_1_method_16_code (6 : Nat) (Option.some Jvm.ClassFile.FieldType.int))
abbrev ws_PS_file : List Cond := c_PS_file :: xg_1
theorem d_PS_file_0 : decode prog_1_method_16_code 0 = .ok (.aload_n 0, 1) := by decide +kernel
theorem d_PS_file_1 : decode prog_1_method_16_code 1 = .ok (.iload_n 1, 1) := by decide +kernel
theorem d_PS_file_2 : decode prog_1_method_16_code 2 = .ok (.invokevirtual 90, 3) := by decide +kernel
theorem d_PS_file_5 : decode prog_1_method_16_code 5 = .ok (.astore 4, 2) := by decide +kernel
theorem d_PS_file_7 : decode prog_1_method_16_code 7 = .ok (.aload_n 0, 1) := by decide +kernel
theorem d_PS_file_8 : decode prog_1_method_16_code 8 = .ok (.aload 4, 2) := by decide +kernel
theorem d_PS_file_10 : decode prog_1_method_16_code 10 = .ok (.iload_n 2, 1) := by decide +kernel
theorem d_PS_file_11 : decode prog_1_method_16_code 11 = .ok (.invokevirtual 110, 3) := by decide +kernel
theorem d_PS_file_14 : decode prog_1_method_16_code 14 = .ok (.istore 5, 2) := by decide +kernel
theorem d_PS_file_16 : decode prog_1_method_16_code 16 = .ok (.iload_n 3, 1) := by decide +kernel
theorem d_PS_file_17 : decode prog_1_method_16_code 17 = .ok (.iconst 5, 1) := by decide +kernel
theorem d_PS_file_18 : decode prog_1_method_16_code 18 = .ok (.if_icmp .ne 14, 3) := by decide +kernel
theorem d_PS_file_21 : decode prog_1_method_16_code 21 = .ok (.aload_n 0, 1) := by decide +kernel
theorem d_PS_file_22 : decode prog_1_method_16_code 22 = .ok (.getfield 48, 3) := by decide +kernel
theorem d_PS_file_25 : decode prog_1_method_16_code 25 = .ok (.getfield 113, 3) := by decide +kernel
theorem d_PS_file_28 : decode prog_1_method_16_code 28 = .ok (.iload 5, 2) := by decide +kernel
theorem d_PS_file_30 : decode prog_1_method_16_code 30 = .ok (.iaload, 1) := by decide +kernel
theorem d_PS_file_31 : decode prog_1_method_16_code 31 = .ok (.ireturn, 1) := by decide +kernel
theorem d_PS_file_32 : decode prog_1_method_16_code 32 = .ok (.iload_n 3, 1) := by decide +kernel
theorem d_PS_file_33 : decode prog_1_method_16_code 33 = .ok (.bipush 6, 2) := by decide +kernel
theorem d_PS_file_35 : decode prog_1_method_16_code 35 = .ok (.if_icmp .ne 28, 3) := by decide +kernel
theorem d_PS_file_38 : decode prog_1_method_16_code 38 = .ok (.aload_n 0, 1) := by decide +kernel
theorem d_PS_file_39 : decode prog_1_method_16_code 39 = .ok (.getfield 30, 3) := by decide +kernel
theorem d_PS_file_42 : decode prog_1_method_16_code 42 = .ok (.getfield 224, 3) := by decide +kernel
theorem d_PS_file_45 : decode prog_1_method_16_code 45 = .ok (.getfield 228, 3) := by decide +kernel
theorem d_PS_file_48 : decode prog_1_method_16_code 48 = .ok (.aload_n 0, 1) := by decide +kernel
theorem d_PS_file_49 : decode prog_1_method_16_code 49 = .ok (.getfield 30, 3) := by decide +kernel
theorem d_PS_file_52 : decode prog_1_method_16_code 52 = .ok (.getfield 224, 3) := by decide +kernel
theorem d_PS_file_55 : decode prog_1_method_16_code 55 = .ok (.getfield 233, 3) := by decide +kernel
theorem d_PS_file_58 : decode prog_1_method_16_code 58 = .ok (.iload 5, 2) := by decide +kernel
theorem d_PS_file_60 : decode prog_1_method_16_code 60 = .ok (.iaload, 1) := by decide +kernel
theorem d_PS_file_61 : decode prog_1_method_16_code 61 = .ok (.iaload, 1) := by decide +kernel
theorem d_PS_file_62 : decode prog_1_method_16_code 62 = .ok (.ireturn, 1) := by decide +kernel
theorem d_PS_file_63 : decode prog_1_method_16_code 63 = .ok (.aload_n 0, 1) := by decide +kernel
theorem d_PS_file_64 : decode prog_1_method_16_code 64 = .ok (.getfield 55, 3) := by decide +kernel
theorem d_PS_file_67 : decode prog_1_method_16_code 67 = .ok (.aload 4, 2) := by decide +kernel
theorem d_PS_file_69 : decode prog_1_method_16_code 69 = .ok (.iload 5, 2) := by decide +kernel
theorem d_PS_file_71 : decode prog_1_method_16_code 71 = .ok (.invokevirtual 125, 3) := by decide +kernel
theorem d_PS_file_74 : decode prog_1_method_16_code 74 = .ok (.iload_n 3, 1) := by decide +kernel
theorem d_PS_file_75 : decode prog_1_method_16_code 75 = .ok (.tableswitch 73 0 4 #[33, 41, 49, 57, 65], 33) := by decide +kernel
theorem d_PS_file_108 : decode prog_1_method_16_code 108 = .ok (.aload_n 0, 1) := by decide +kernel
theorem d_PS_file_109 : decode prog_1_method_16_code 109 = .ok (.getfield 55, 3) := by decide +kernel
theorem d_PS_file_112 : decode prog_1_method_16_code 112 = .ok (.getfield 129, 3) := by decide +kernel
theorem d_PS_file_115 : decode prog_1_method_16_code 115 = .ok (.ireturn, 1) := by decide +kernel
theorem d_PS_file_116 : decode prog_1_method_16_code 116 = .ok (.aload_n 0, 1) := by decide +kernel
theorem d_PS_file_117 : decode prog_1_method_16_code 117 = .ok (.getfield 55, 3) := by decide +kernel
theorem d_PS_file_120 : decode prog_1_method_16_code 120 = .ok (.getfield 236, 3) := by decide +kernel
theorem d_PS_file_123 : decode prog_1_method_16_code 123 = .ok (.ireturn, 1) := by decide +kernel
theorem d_PS_file_124 : decode prog_1_method_16_code 124 = .ok (.aload_n 0, 1) := by decide +kernel
theorem d_PS_file_125 : decode prog_1_method_16_code 125 = .ok (.getfield 55, 3) := by decide +kernel
theorem d_PS_file_128 : decode prog_1_method_16_code 128 = .ok (.getfield 237, 3) := by decide +kernel
theorem d_PS_file_131 : decode prog_1_method_16_code 131 = .ok (.ireturn, 1) := by decide +kernel
theorem d_PS_file_132 : decode prog_1_method_16_code 132 = .ok (.aload_n 0, 1) := by decide +kernel
theorem d_PS_file_133 : decode prog_1_method_16_code 133 = .ok (.getfield 55, 3) := by decide +kernel
theorem d_PS_file_136 : decode prog_1_method_16_code 136 = .ok (.getfield 240, 3) := by decide +kernel
theorem d_PS_file_139 : decode prog_1_method_16_code 139 = .ok (.ireturn, 1) := by decide +kernel
theorem d_PS_file_140 : decode prog_1_method_16_code 140 = .ok (.aload_n 0, 1) := by decide +kernel
theorem d_PS_file_141 : decode prog_1_method_16_code 141 = .ok (.getfield 55, 3) := by decide +kernel
theorem d_PS_file_144 : decode prog_1_method_16_code 144 = .ok (.getfield 243, 3) := by decide +kernel
theorem d_PS_file_147 : decode prog_1_method_16_code 147 = .ok (.ireturn, 1) := by decide +kernel
theorem d_PS_file_148 : decode prog_1_method_16_code 148 = .ok (.new 87, 3) := by decide +kernel
theorem d_PS_file_151 : decode prog_1_method_16_code 151 = .ok (.dup, 1) := by decide +kernel
theorem d_PS_file_152 : decode prog_1_method_16_code 152 = .ok (.invokespecial 89, 3) := by decide +kernel
theorem d_PS_file_155 : decode prog_1_method_16_code 155 = .ok (.athrow, 1) := by decide +kernel
def y_PS_name : MethodName := ⟨"PatchStore", "name", "(IIII)I"⟩
abbrev c_PS_name : Cond := (Jvm.Cond.code ({ cls := "PatchStore", name := "name", desc := "(IIII)I" } : Jvm.MethodName) prog_1_method_17_code (8 : Nat) (Option.some Jvm.ClassFile.FieldType.int))
abbrev ws_PS_name : List Cond := c_PS_name :: xg_1
theorem d_PS_name_0 : decode prog_1_method_17_code 0 = .ok (.aload_n 0, 1) := by decide +kernel
theorem d_PS_name_1 : decode prog_1_method_17_code 1 = .ok (.getfield 48, 3) := by decide +kernel
theorem d_PS_name_4 : decode prog_1_method_17_code 4 = .ok (.aload_n 0, 1) := by decide +kernel
theorem d_PS_name_5 : decode prog_1_method_17_code 5 = .ok (.aload_n 0, 1) := by decide +kernel
theorem d_PS_name_6 : decode prog_1_method_17_code 6 = .ok (.iload_n 1, 1) := by decide +kernel
theorem d_PS_name_7 : decode prog_1_method_17_code 7 = .ok (.invokevirtual 90, 3) := by decide +kernel
theorem d_PS_name_10 : decode prog_1_method_17_code 10 = .ok (.iload_n 2, 1) := by decide +kernel
theorem d_PS_name_11 : decode prog_1_method_17_code 11 = .ok (.invokevirtual 110, 3) := by decide +kernel
theorem d_PS_name_14 : decode prog_1_method_17_code 14 = .ok (.iload_n 3, 1) := by decide +kernel
theorem d_PS_name_15 : decode prog_1_method_17_code 15 = .ok (.invokevirtual 246, 3) := by decide +kernel
theorem d_PS_name_18 : decode prog_1_method_17_code 18 = .ok (.istore 5, 2) := by decide +kernel
theorem d_PS_name_20 : decode prog_1_method_17_code 20 = .ok (.iload 5, 2) := by decide +kernel
theorem d_PS_name_22 : decode prog_1_method_17_code 22 = .ok (.iconst (-1), 1) := by decide +kernel
theorem d_PS_name_23 : decode prog_1_method_17_code 23 = .ok (.if_icmp .ne 11, 3) := by decide +kernel
theorem d_PS_name_26 : decode prog_1_method_17_code 26 = .ok (.new 174, 3) := by decide +kernel
theorem d_PS_name_29 : decode prog_1_method_17_code 29 = .ok (.dup, 1) := by decide +kernel
theorem d_PS_name_30 : decode prog_1_method_17_code 30 = .ok (.invokespecial 176, 3) := by decide +kernel
theorem d_PS_name_33 : decode prog_1_method_17_code 33 = .ok (.athrow, 1) := by decide +kernel
theorem d_PS_name_34 : decode prog_1_method_17_code 34 = .ok (.aload_n 0, 1) := by decide +kernel
theorem d_PS_name_35 : decode prog_1_method_17_code 35 = .ok (.getfield 30, 3) := by decide +kernel
theorem d_PS_name_38 : decode prog_1_method_17_code 38 = .ok (.iload 5, 2) := by decide +kernel
theorem d_PS_name_40 : decode prog_1_method_17_code 40 = .ok (.invokevirtual 250, 3) := by decide +kernel
theorem d_PS_name_43 : decode prog_1_method_17_code 43 = .ok (.istore 6, 2) := by decide +kernel
theorem d_PS_name_45 : decode prog_1_method_17_code 45 = .ok (.aload_n 0, 1) := by decide +kernel
theorem d_PS_name_46 : decode prog_1_method_17_code 46 = .ok (.getfield 30, 3) := by decide +kernel
theorem d_PS_name_49 : decode prog_1_method_17_code 49 = .ok (.getfield 154, 3) := by decide +kernel
theorem d_PS_name_52 : decode prog_1_method_17_code 52 = .ok (.iload 6, 2) := by decide +kernel
theorem d_PS_name_54 : decode prog_1_method_17_code 54 = .ok (.baload, 1) := by decide +kernel
theorem d_PS_name_55 : decode prog_1_method_17_code 55 = .ok (.istore 7, 2) := by decide +kernel
theorem d_PS_name_57 : decode prog_1_method_17_code 57 = .ok (.iload 4, 2) := by decide +kernel
theorem d_PS_name_59 : decode prog_1_method_17_code 59 = .ok (.iconst (-1), 1) := by decide +kernel
theorem d_PS_name_60 : decode prog_1_method_17_code 60 = .ok (.if_icmp .lt 10, 3) := by decide +kernel
theorem d_PS_name_63 : decode prog_1_method_17_code 63 = .ok (.iload 4, 2) := by decide +kernel
theorem d_PS_name_65 : decode prog_1_method_17_code 65 = .ok (.iload 7, 2) := by decide +kernel
theorem d_PS_name_67 : decode prog_1_method_17_code 67 = .ok (.if_icmp .lt 11, 3) := by decide +kernel
theorem d_PS_name_70 : decode prog_1_method_17_code 70 = .ok (.new 253, 3) := by decide +kernel
theorem d_PS_name_73 : decode prog_1_method_17_code 73 = .ok (.dup, 1) := by decide +kernel
theorem d_PS_name_74 : decode prog_1_method_17_code 74 = .ok (.invokespecial 255, 3) := by decide +kernel
theorem d_PS_name_77 : decode prog_1_method_17_code 77 = .ok (.athrow, 1) := by decide +kernel
theorem d_PS_name_78 : decode prog_1_method_17_code 78 = .ok (.aload_n 0, 1) := by decide +kernel
theorem d_PS_name_79 : decode prog_1_method_17_code 79 = .ok (.getfield 30, 3) := by decide +kernel
theorem d_PS_name_82 : decode prog_1_method_17_code 82 = .ok (.getfield 154, 3) := by decide +kernel
theorem d_PS_name_85 : decode prog_1_method_17_code 85 = .ok (.iload 6, 2) := by decide +kernel
theorem d_PS_name_87 : decode prog_1_method_17_code 87 = .ok (.iconst 1, 1) := by decide +kernel
theorem d_PS_name_88 : decode prog_1_method_17_code 88 = .ok (.iadd, 1) := by decide +kernel
theorem d_PS_name_89 : decode prog_1_method_17_code 89 = .ok (.iload 4, 2) := by decide +kernel
theorem d_PS_name_91 : decode prog_1_method_17_code 91 = .ok (.iadd, 1) := by decide +kernel
theorem d_PS_name_92 : decode prog_1_method_17_code 92 = .ok (.baload, 1) := by decide +kernel
theorem d_PS_name_93 : decode prog_1_method_17_code 93 = .ok (.ireturn, 1) := by decide +kernel
def y_PS_line : MethodName := ⟨"PatchStore", "line", "(IIII)I"⟩
abbrev c_PS_line : Cond := (Jvm.Cond.code ({ cls := "PatchStore", name := "line", desc := "(IIII)I" } : Jvm.MethodName) prog_1_method_18_code (7 : Nat) (Option.some Jvm.ClassFile.FieldType.int))
abbrev ws_PS_line : List Cond := c_PS_line :: xg_1
theorem d_PS_line_0 : decode prog_1_method_18_code 0 = .ok (.aload_n 0, 1) := by decide +kernel
theorem d_PS_line_1 : decode prog_1_method_18_code 1 = .ok (.iload_n 1, 1) := by decide +kernel
theorem d_PS_line_2 : decode prog_1_method_18_code 2 = .ok (.invokevirtual 90, 3) := by decide +kernel
theorem d_PS_line_5 : decode prog_1_method_18_code 5 = .ok (.astore 5, 2) := by decide +kernel
theorem d_PS_line_7 : decode prog_1_method_18_code 7 = .ok (.aload_n 0, 1) := by decide +kernel
theorem d_PS_line_8 : decode prog_1_method_18_code 8 = .ok (.getfield 55, 3) := by decide +kernel
theorem d_PS_line_11 : decode prog_1_method_18_code 11 = .ok (.aload 5, 2) := by decide +kernel
theorem d_PS_line_13 : decode prog_1_method_18_code 13 = .ok (.aload_n 0, 1) := by decide +kernel
theorem d_PS_line_14 : decode prog_1_method_18_code 14 = .ok (.aload 5, 2) := by decide +kernel
theorem d_PS_line_16 : decode prog_1_method_18_code 16 = .ok (.iload_n 2, 1) := by decide +kernel
theorem d_PS_line_17 : decode prog_1_method_18_code 17 = .ok (.invokevirtual 110, 3) := by decide +kernel
theorem d_PS_line_20 : decode prog_1_method_18_code 20 = .ok (.invokevirtual 125, 3) := by decide +kernel
theorem d_PS_line_23 : decode prog_1_method_18_code 23 = .ok (.iload_n 3, 1) := by decide +kernel
theorem d_PS_line_24 : decode prog_1_method_18_code 24 = .ok (.ifCond .lt 14, 3) := by decide +kernel
theorem d_PS_line_27 : decode prog_1_method_18_code 27 = .ok (.iload_n 3, 1) := by decide +kernel
theorem d_PS_line_28 : decode prog_1_method_18_code 28 = .ok (.aload_n 0, 1) := by decide +kernel
theorem d_PS_line_29 : decode prog_1_method_18_code 29 = .ok (.getfield 55, 3) := by decide +kernel
theorem d_PS_line_32 : decode prog_1_method_18_code 32 = .ok (.getfield 129, 3) := by decide +kernel
theorem d_PS_line_35 : decode prog_1_method_18_code 35 = .ok (.if_icmp .lt 11, 3) := by decide +kernel
theorem d_PS_line_38 : decode prog_1_method_18_code 38 = .ok (.new 174, 3) := by decide +kernel
theorem d_PS_line_41 : decode prog_1_method_18_code 41 = .ok (.dup, 1) := by decide +kernel
theorem d_PS_line_42 : decode prog_1_method_18_code 42 = .ok (.invokespecial 176, 3) := by decide +kernel
theorem d_PS_line_45 : decode prog_1_method_18_code 45 = .ok (.athrow, 1) := by decide +kernel
theorem d_PS_line_46 : decode prog_1_method_18_code 46 = .ok (.aload_n 0, 1) := by decide +kernel
theorem d_PS_line_47 : decode prog_1_method_18_code 47 = .ok (.getfield 55, 3) := by decide +kernel
theorem d_PS_line_50 : decode prog_1_method_18_code 50 = .ok (.getfield 256, 3) := by decide +kernel
theorem d_PS_line_53 : decode prog_1_method_18_code 53 = .ok (.iload_n 3, 1) := by decide +kernel
theorem d_PS_line_54 : decode prog_1_method_18_code 54 = .ok (.iaload, 1) := by decide +kernel
theorem d_PS_line_55 : decode prog_1_method_18_code 55 = .ok (.istore 6, 2) := by decide +kernel
theorem d_PS_line_57 : decode prog_1_method_18_code 57 = .ok (.iload 4, 2) := by decide +kernel
theorem d_PS_line_59 : decode prog_1_method_18_code 59 = .ok (.bipush (-4), 2) := by decide +kernel
theorem d_PS_line_61 : decode prog_1_method_18_code 61 = .ok (.if_icmp .lt 21, 3) := by decide +kernel
theorem d_PS_line_64 : decode prog_1_method_18_code 64 = .ok (.iload 4, 2) := by decide +kernel
theorem d_PS_line_66 : decode prog_1_method_18_code 66 = .ok (.aload_n 0, 1) := by decide +kernel
theorem d_PS_line_67 : decode prog_1_method_18_code 67 = .ok (.getfield 30, 3) := by decide +kernel
theorem d_PS_line_70 : decode prog_1_method_18_code 70 = .ok (.getfield 259, 3) := by decide +kernel
theorem d_PS_line_73 : decode prog_1_method_18_code 73 = .ok (.getfield 263, 3) := by decide +kernel
theorem d_PS_line_76 : decode prog_1_method_18_code 76 = .ok (.iload 6, 2) := by decide +kernel
theorem d_PS_line_78 : decode prog_1_method_18_code 78 = .ok (.iaload, 1) := by decide +kernel
theorem d_PS_line_79 : decode prog_1_method_18_code 79 = .ok (.if_icmp .lt 11, 3) := by decide +kernel
theorem d_PS_line_82 : decode prog_1_method_18_code 82 = .ok (.new 253, 3) := by decide +kernel
theorem d_PS_line_85 : decode prog_1_method_18_code 85 = .ok (.dup, 1) := by decide +kernel
theorem d_PS_line_86 : decode prog_1_method_18_code 86 = .ok (.invokespecial 255, 3) := by decide +kernel
theorem d_PS_line_89 : decode prog_1_method_18_code 89 = .ok (.athrow, 1) := by decide +kernel
theorem d_PS_line_90 : decode prog_1_method_18_code 90 = .ok (.iload 4, 2) := by decide +kernel
theorem d_PS_line_92 : decode prog_1_method_18_code 92 = .ok (.ifCond .ge 17, 3) := by decide +kernel
theorem d_PS_line_95 : decode prog_1_method_18_code 95 = .ok (.aload_n 0, 1) := by decide +kernel
theorem d_PS_line_96 : decode prog_1_method_18_code 96 = .ok (.getfield 30, 3) := by decide +kernel
theorem d_PS_line_99 : decode prog_1_method_18_code 99 = .ok (.iload 6, 2) := by decide +kernel
theorem d_PS_line_101 : decode prog_1_method_18_code 101 = .ok (.iload 4, 2) := by decide +kernel
theorem d_PS_line_103 : decode prog_1_method_18_code 103 = .ok (.invokevirtual 267, 3) := by decide +kernel
theorem d_PS_line_106 : decode prog_1_method_18_code 106 = .ok (.goto 31, 3) := by decide +kernel
theorem d_PS_line_109 : decode prog_1_method_18_code 109 = .ok (.aload_n 0, 1) := by decide +kernel
theorem d_PS_line_110 : decode prog_1_method_18_code 110 = .ok (.getfield 30, 3) := by decide +kernel
theorem d_PS_line_113 : decode prog_1_method_18_code 113 = .ok (.getfield 154, 3) := by decide +kernel
theorem d_PS_line_116 : decode prog_1_method_18_code 116 = .ok (.aload_n 0, 1) := by decide +kernel
theorem d_PS_line_117 : decode prog_1_method_18_code 117 = .ok (.getfield 30, 3) := by decide +kernel
theorem d_PS_line_120 : decode prog_1_method_18_code 120 = .ok (.getfield 259, 3) := by decide +kernel
theorem d_PS_line_123 : decode prog_1_method_18_code 123 = .ok (.getfield 270, 3) := by decide +kernel
theorem d_PS_line_126 : decode prog_1_method_18_code 126 = .ok (.iload 6, 2) := by decide +kernel
theorem d_PS_line_128 : decode prog_1_method_18_code 128 = .ok (.iaload, 1) := by decide +kernel
theorem d_PS_line_129 : decode prog_1_method_18_code 129 = .ok (.iload 4, 2) := by decide +kernel
theorem d_PS_line_131 : decode prog_1_method_18_code 131 = .ok (.iadd, 1) := by decide +kernel
theorem d_PS_line_132 : decode prog_1_method_18_code 132 = .ok (.baload, 1) := by decide +kernel
theorem d_PS_line_133 : decode prog_1_method_18_code 133 = .ok (.sipush 255, 3) := by decide +kernel
theorem d_PS_line_136 : decode prog_1_method_18_code 136 = .ok (.iand, 1) := by decide +kernel
theorem d_PS_line_137 : decode prog_1_method_18_code 137 = .ok (.ireturn, 1) := by decide +kernel
def y_PS_show : MethodName := ⟨"PatchStore", "show", "(I)I"⟩
abbrev c_PS_show : Cond := (Jvm.Cond.code ({ cls := "PatchStore", name := "show", desc := "(I)I" } : Jvm.MethodName) prog_1_method_9_code (3 : Nat) (Option.some Jvm.ClassFile.FieldType.int))
abbrev ws_PS_show : List Cond := c_PS_show :: xg_1
theorem d_PS_show_0 : decode prog_1_method_9_code 0 = .ok (.aload_n 0, 1) := by decide +kernel
theorem d_PS_show_1 : decode prog_1_method_9_code 1 = .ok (.iload_n 1, 1) := by decide +kernel
theorem d_PS_show_2 : decode prog_1_method_9_code 2 = .ok (.invokevirtual 148, 3) := by decide +kernel
theorem d_PS_show_5 : decode prog_1_method_9_code 5 = .ok (.aload_n 0, 1) := by decide +kernel
theorem d_PS_show_6 : decode prog_1_method_9_code 6 = .ok (.getfield 30, 3) := by decide +kernel
theorem d_PS_show_9 : decode prog_1_method_9_code 9 = .ok (.getfield 151, 3) := by decide +kernel
theorem d_PS_show_12 : decode prog_1_method_9_code 12 = .ok (.iload_n 1, 1) := by decide +kernel
theorem d_PS_show_13 : decode prog_1_method_9_code 13 = .ok (.iconst 1, 1) := by decide +kernel
theorem d_PS_show_14 : decode prog_1_method_9_code 14 = .ok (.iadd, 1) := by decide +kernel
theorem d_PS_show_15 : decode prog_1_method_9_code 15 = .ok (.iaload, 1) := by decide +kernel
theorem d_PS_show_16 : decode prog_1_method_9_code 16 = .ok (.aload_n 0, 1) := by decide +kernel
theorem d_PS_show_17 : decode prog_1_method_9_code 17 = .ok (.getfield 30, 3) := by decide +kernel
theorem d_PS_show_20 : decode prog_1_method_9_code 20 = .ok (.getfield 151, 3) := by decide +kernel
theorem d_PS_show_23 : decode prog_1_method_9_code 23 = .ok (.iload_n 1, 1) := by decide +kernel
theorem d_PS_show_24 : decode prog_1_method_9_code 24 = .ok (.iaload, 1) := by decide +kernel
theorem d_PS_show_25 : decode prog_1_method_9_code 25 = .ok (.isub, 1) := by decide +kernel
theorem d_PS_show_26 : decode prog_1_method_9_code 26 = .ok (.istore_n 2, 1) := by decide +kernel
theorem d_PS_show_27 : decode prog_1_method_9_code 27 = .ok (.iload_n 2, 1) := by decide +kernel
theorem d_PS_show_28 : decode prog_1_method_9_code 28 = .ok (.ldc 9, 2) := by decide +kernel
theorem d_PS_show_30 : decode prog_1_method_9_code 30 = .ok (.if_icmp .le 11, 3) := by decide +kernel
theorem d_PS_show_33 : decode prog_1_method_9_code 33 = .ok (.new 135, 3) := by decide +kernel
theorem d_PS_show_36 : decode prog_1_method_9_code 36 = .ok (.dup, 1) := by decide +kernel
theorem d_PS_show_37 : decode prog_1_method_9_code 37 = .ok (.invokespecial 137, 3) := by decide +kernel
theorem d_PS_show_40 : decode prog_1_method_9_code 40 = .ok (.athrow, 1) := by decide +kernel
theorem d_PS_show_41 : decode prog_1_method_9_code 41 = .ok (.aload_n 0, 1) := by decide +kernel
theorem d_PS_show_42 : decode prog_1_method_9_code 42 = .ok (.getfield 30, 3) := by decide +kernel
theorem d_PS_show_45 : decode prog_1_method_9_code 45 = .ok (.getfield 154, 3) := by decide +kernel
theorem d_PS_show_48 : decode prog_1_method_9_code 48 = .ok (.aload_n 0, 1) := by decide +kernel
theorem d_PS_show_49 : decode prog_1_method_9_code 49 = .ok (.getfield 30, 3) := by decide +kernel
theorem d_PS_show_52 : decode prog_1_method_9_code 52 = .ok (.getfield 151, 3) := by decide +kernel
theorem d_PS_show_55 : decode prog_1_method_9_code 55 = .ok (.iload_n 1, 1) := by decide +kernel
theorem d_PS_show_56 : decode prog_1_method_9_code 56 = .ok (.iaload, 1) := by decide +kernel
theorem d_PS_show_57 : decode prog_1_method_9_code 57 = .ok (.aload_n 0, 1) := by decide +kernel
theorem d_PS_show_58 : decode prog_1_method_9_code 58 = .ok (.getfield 10, 3) := by decide +kernel
theorem d_PS_show_61 : decode prog_1_method_9_code 61 = .ok (.iconst 0, 1) := by decide +kernel
theorem d_PS_show_62 : decode prog_1_method_9_code 62 = .ok (.iload_n 2, 1) := by decide +kernel
theorem d_PS_show_63 : decode prog_1_method_9_code 63 = .ok (.invokestatic 157, 3) := by decide +kernel
theorem d_PS_show_66 : decode prog_1_method_9_code 66 = .ok (.aload_n 0, 1) := by decide +kernel
theorem d_PS_show_67 : decode prog_1_method_9_code 67 = .ok (.iload_n 2, 1) := by decide +kernel
theorem d_PS_show_68 : decode prog_1_method_9_code 68 = .ok (.putfield 76, 3) := by decide +kernel
theorem d_PS_show_71 : decode prog_1_method_9_code 71 = .ok (.iload_n 2, 1) := by decide +kernel
theorem d_PS_show_72 : decode prog_1_method_9_code 72 = .ok (.ireturn, 1) := by decide +kernel
def y_PS_hash : MethodName := ⟨"PatchStore", "hash", "(II)I"⟩
abbrev c_PS_hash : Cond := (Jvm.Cond.code ({ cls := "PatchStore", name := "hash", desc := "(II)I" } : Jvm.MethodName) prog_1_method_13_code (3 : Nat) (Option.some Jvm.ClassFile.FieldType.int))
abbrev ws_PS_hash : List Cond := c_PS_hash :: xg_1
theorem d_PS_hash_0 : decode prog_1_method_13_code 0 = .ok (.aload_n 0, 1) := by decide +kernel
theorem d_PS_hash_1 : decode prog_1_method_13_code 1 = .ok (.iload_n 1, 1) := by decide +kernel
theorem d_PS_hash_2 : decode prog_1_method_13_code 2 = .ok (.invokevirtual 148, 3) := by decide +kernel
theorem d_PS_hash_5 : decode prog_1_method_13_code 5 = .ok (.aload_n 0, 1) := by decide +kernel
theorem d_PS_hash_6 : decode prog_1_method_13_code 6 = .ok (.iload_n 2, 1) := by decide +kernel
theorem d_PS_hash_7 : decode prog_1_method_13_code 7 = .ok (.invokevirtual 199, 3) := by decide +kernel
theorem d_PS_hash_10 : decode prog_1_method_13_code 10 = .ok (.aload_n 0, 1) := by decide +kernel
theorem d_PS_hash_11 : decode prog_1_method_13_code 11 = .ok (.getfield 30, 3) := by decide +kernel
theorem d_PS_hash_14 : decode prog_1_method_13_code 14 = .ok (.getfield 202, 3) := by decide +kernel
theorem d_PS_hash_17 : decode prog_1_method_13_code 17 = .ok (.iload_n 1, 1) := by decide +kernel
theorem d_PS_hash_18 : decode prog_1_method_13_code 18 = .ok (.bipush 32, 2) := by decide +kernel
theorem d_PS_hash_20 : decode prog_1_method_13_code 20 = .ok (.imul, 1) := by decide +kernel
theorem d_PS_hash_21 : decode prog_1_method_13_code 21 = .ok (.iload_n 2, 1) := by decide +kernel
theorem d_PS_hash_22 : decode prog_1_method_13_code 22 = .ok (.iadd, 1) := by decide +kernel
theorem d_PS_hash_23 : decode prog_1_method_13_code 23 = .ok (.baload, 1) := by decide +kernel
theorem d_PS_hash_24 : decode prog_1_method_13_code 24 = .ok (.sipush 255, 3) := by decide +kernel
theorem d_PS_hash_27 : decode prog_1_method_13_code 27 = .ok (.iand, 1) := by decide +kernel
theorem d_PS_hash_28 : decode prog_1_method_13_code 28 = .ok (.ireturn, 1) := by decide +kernel
def y_PS_has : MethodName := ⟨"PatchStore", "has", "(III)I"⟩
abbrev c_PS_has : Cond := (Jvm.Cond.code ({ cls := "PatchStore", name := "has", desc := "(III)I" } : Jvm.MethodName) prog_1_method_12_code (5 : Nat) (Option.some Jvm.ClassFile.FieldType.int))
abbrev ws_PS_has : List Cond := c_PS_has :: xg_1
theorem d_PS_has_0 : decode prog_1_method_12_code 0 = .ok (.aload_n 0, 1) := by decide +kernel
theorem d_PS_has_1 : decode prog_1_method_12_code 1 = .ok (.iload_n 1, 1) := by decide +kernel
theorem d_PS_has_2 : decode prog_1_method_12_code 2 = .ok (.invokevirtual 90, 3) := by decide +kernel
theorem d_PS_has_5 : decode prog_1_method_12_code 5 = .ok (.astore 4, 2) := by decide +kernel
theorem d_PS_has_7 : decode prog_1_method_12_code 7 = .ok (.aload_n 0, 1) := by decide +kernel
theorem d_PS_has_8 : decode prog_1_method_12_code 8 = .ok (.iload_n 2, 1) := by decide +kernel
theorem d_PS_has_9 : decode prog_1_method_12_code 9 = .ok (.invokevirtual 148, 3) := by decide +kernel
theorem d_PS_has_12 : decode prog_1_method_12_code 12 = .ok (.iload_n 3, 1) := by decide +kernel
theorem d_PS_has_13 : decode prog_1_method_12_code 13 = .ok (.tableswitch 65 0 2 #[27, 42, 56], 27) := by decide +kernel
theorem d_PS_has_40 : decode prog_1_method_12_code 40 = .ok (.aload 4, 2) := by decide +kernel
theorem d_PS_has_42 : decode prog_1_method_12_code 42 = .ok (.iload_n 2, 1) := by decide +kernel
theorem d_PS_has_43 : decode prog_1_method_12_code 43 = .ok (.invokevirtual 171, 3) := by decide +kernel
theorem d_PS_has_46 : decode prog_1_method_12_code 46 = .ok (.ifCond .eq 7, 3) := by decide +kernel
theorem d_PS_has_49 : decode prog_1_method_12_code 49 = .ok (.iconst 1, 1) := by decide +kernel
theorem d_PS_has_50 : decode prog_1_method_12_code 50 = .ok (.goto 4, 3) := by decide +kernel
theorem d_PS_has_53 : decode prog_1_method_12_code 53 = .ok (.iconst 0, 1) := by decide +kernel
theorem d_PS_has_54 : decode prog_1_method_12_code 54 = .ok (.ireturn, 1) := by decide +kernel
theorem d_PS_has_55 : decode prog_1_method_12_code 55 = .ok (.aload 4, 2) := by decide +kernel
theorem d_PS_has_57 : decode prog_1_method_12_code 57 = .ok (.aload_n 0, 1) := by decide +kernel
theorem d_PS_has_58 : decode prog_1_method_12_code 58 = .ok (.getfield 30, 3) := by decide +kernel
theorem d_PS_has_61 : decode prog_1_method_12_code 61 = .ok (.getfield 184, 3) := by decide +kernel
theorem d_PS_has_64 : decode prog_1_method_12_code 64 = .ok (.iload_n 2, 1) := by decide +kernel
theorem d_PS_has_65 : decode prog_1_method_12_code 65 = .ok (.invokevirtual 187, 3) := by decide +kernel
theorem d_PS_has_68 : decode prog_1_method_12_code 68 = .ok (.ireturn, 1) := by decide +kernel
theorem d_PS_has_69 : decode prog_1_method_12_code 69 = .ok (.aload_n 0, 1) := by decide +kernel
theorem d_PS_has_70 : decode prog_1_method_12_code 70 = .ok (.getfield 30, 3) := by decide +kernel
theorem d_PS_has_73 : decode prog_1_method_12_code 73 = .ok (.iload_n 2, 1) := by decide +kernel
theorem d_PS_has_74 : decode prog_1_method_12_code 74 = .ok (.invokevirtual 196, 3) := by decide +kernel
theorem d_PS_has_77 : decode prog_1_method_12_code 77 = .ok (.ireturn, 1) := by decide +kernel
theorem d_PS_has_78 : decode prog_1_method_12_code 78 = .ok (.new 87, 3) := by decide +kernel
theorem d_PS_has_81 : decode prog_1_method_12_code 81 = .ok (.dup, 1) := by decide +kernel
theorem d_PS_has_82 : decode prog_1_method_12_code 82 = .ok (.invokespecial 89, 3) := by decide +kernel
theorem d_PS_has_85 : decode prog_1_method_12_code 85 = .ok (.athrow, 1) := by decide +kernel
set_option maxHeartbeats 4000000 in
set_option maxRecDepth 100000 in
/-- call on a fresh object -/
theorem m_PS_call0 (l : Launch) (dC : Nat → ClassId) (dI : Nat → Nat → Nat) (cI cB cL cZ cR : ClassId) (hlt : xl_T l) (h rp vw tx no rr sk : Nat) (ps_tape ps_sha ps_stock ps_intake ps_maker ps_recording ps_tapeLength ps_lastFault vw_files vw_namings vw_changes vw_over vw_heads vw_nexts vw_sharing rr_members rr_digest rr_size rr_digestVersion sk_bytes sk_from sk_firstDependency sk_firstChange sk_dependencies sk_hashes sk_byHash sk_leansOn sk_leantBy sk_changes sk_lines : Value) (ver : Int32) (f0 : Nat → Int32) (g : Nat → Nat) (rf : Nat → Option Nat) (p0 p1 : Int32) (sz : Nat) (hrf : ∀ k, k < 8 → rf k = some (g k)) (hrr_rr : ∀ n, n < 8 → p0 = nI n → g n = rr) : xc_Met l y_PS_call ws_PS_call ({ frames := 14, cells := 2, slots := 12, locals := 400 }) (xw_Px dC dI [(cI, .int), (cB, .byte), (cL, .long), (cZ, .boolean), (cR, .object "PatchStore$Repository")] [.ref h, .int p0, .int p1] [(h, .inr (0, [ps_tape, .ref rp, ps_sha, ps_stock, ps_intake, .ref vw, .ref tx, ps_maker, ps_recording, ps_tapeLength, ps_lastFault])), (rp, .inl (cR, 8, .inr (.inr (.inr (.inr rf))))), (vw, .inr (11, [vw_files, .ref no, vw_namings, .int 0, .int 0, .ref sk, vw_changes, .null, .int 0, vw_over, .int 0, vw_heads, vw_nexts, vw_sharing])), (no, .inl (cI, 200, .inl f0)), (rr, .inr (7, [rr_members, rr_digest, rr_size, .int ver, rr_digestVersion])), (sk, .inr (9, [sk_bytes, sk_from, sk_firstDependency, sk_firstChange, sk_dependencies, sk_hashes, sk_byHash, sk_leansOn, sk_leantBy, sk_changes, sk_lines, .int 0]))] sz) (xc_Q (S := Unit) (fun _ (_ : Unit) => False) (fun C (_ : Unit) => ((¬ ∃ n : Nat, n < 8 ∧ p0 = nI n) ∧ C = "java/util/NoSuchElementException") ∨ ((∃ n : Nat, n < 8 ∧ p0 = nI n) ∧ C = "java/util/NoSuchElementException")) (fun _ _ => True) (va_A [(h, .inr (0, [ps_tape, .ref rp, ps_sha, ps_stock, ps_intake, .ref vw, .ref tx, ps_maker, ps_recording, ps_tapeLength, ps_lastFault])), (rp, .inl (cR, 8, .inr (.inr (.inr (.inr rf))))), (vw, .inr (11, [vw_files, .ref no, vw_namings, .int 0, .int 0, .ref sk, vw_changes, .null, .int 0, vw_over, .int 0, vw_heads, vw_nexts, vw_sharing])), (no, .inl (cI, 200, .inl f0)), (rr, .inr (7, [rr_members, rr_digest, rr_size, .int ver, rr_digestVersion])), (sk, .inr (9, [sk_bytes, sk_from, sk_firstDependency, sk_firstChange, sk_dependencies, sk_hashes, sk_byHash, sk_leansOn, sk_leantBy, sk_changes, sk_lines, .int 0]))] sz)) 2 12 (va_A [(h, .inr (0, [ps_tape, .ref rp, ps_sha, ps_stock, ps_intake, .ref vw, .ref tx, ps_maker, ps_recording, ps_tapeLength, ps_lastFault])), (rp, .inl (cR, 8, .inr (.inr (.inr (.inr rf))))), (vw, .inr (11, [vw_files, .ref no, vw_namings, .int 0, .int 0, .ref sk, vw_changes, .null, .int 0, vw_over, .int 0, vw_heads, vw_nexts, vw_sharing])), (no, .inl (cI, 200, .inl f0)), (rr, .inr (7, [rr_members, rr_digest, rr_size, .int ver, rr_digestVersion])), (sk, .inr (9, [sk_bytes, sk_from, sk_firstDependency, sk_firstChange, sk_dependencies, sk_hashes, sk_byHash, sk_leansOn, sk_leantBy, sk_changes, sk_lines, .int 0]))] sz) := by
  refine xc_ofW (cc := prog_1_method_5_code) (maxL := 5) (ret := (Option.some Jvm.ClassFile.FieldType.int)) (by decide) rfl ?_
  intro p e s m args below meth c s₁ B hml hno hv
  obtain ⟨rfl, hsz, hP, hK, hD0, hN, hTh⟩ := hv
  have htr : e.platform.stackTraces = false := hlt e B.admits
  have hx := B.exec
  have hb := B.bytes
  have hr := B.returns
  have hts0 := atoms_spec (ws := ws_PS_call) B.pre
  have hts : ∀ w ∈ xg_1, w.before _ s = true := fun w h => hts0 w (List.mem_cons_of_mem _ h)
  have hown : s.vm.findClass "PatchStore" = some m.cls := findClass_of_methodNamed B.named
  have hlocks := B.notSynchronized
  subst hsz
  have hD := hD0.self (sz := s.heap.size)
  generalize hAe : va_A [(h, .inr (0, [ps_tape, .ref rp, ps_sha, ps_stock, ps_intake, .ref vw, .ref tx, ps_maker, ps_recording, ps_tapeLength, ps_lastFault])), (rp, .inl (cR, 8, .inr (.inr (.inr (.inr rf))))), (vw, .inr (11, [vw_files, .ref no, vw_namings, .int 0, .int 0, .ref sk, vw_changes, .null, .int 0, vw_over, .int 0, vw_heads, vw_nexts, vw_sharing])), (no, .inl (cI, 200, .inl f0)), (rr, .inr (7, [rr_members, rr_digest, rr_size, .int ver, rr_digestVersion])), (sk, .inr (9, [sk_bytes, sk_from, sk_firstDependency, sk_firstChange, sk_dependencies, sk_hashes, sk_byHash, sk_leansOn, sk_leantBy, sk_changes, sk_lines, .int 0]))] s.heap.size = A at hD hTh ⊢
  have hA : ∀ q : Nat, s.heap.size ≤ q → A q := fun q h => by rw [← hAe]; exact Or.inr h
  have hS : va_S A s.heap s.heap [] := va_S.rf
  have hl := lv_entry ([.ref h, .int p0, .int p1]) (n := 5) (Nat.le_of_ble_eq_true rfl)
  rw [lg_entry_eq]
  generalize (lg_sl ([.ref h, .int p0, .int p1]) ++ List.replicate (5 - (lg_sl ([.ref h, .int p0, .int p1])).length) Slot.unset).toArray = ls at hl ⊢
  have hl : lv_has ls 5 [(0, .ref h), (1, .int p0), (2, .int p1)] := hl
  refine lv_aload_n hx hb d_PS_call_0 rfl (lv_at hl 0 rfl) ?_
  refine lv_iload_n hx hb d_PS_call_1 rfl (lv_at hl 1 rfl) ?_
  have hPc := hP.sub (ws' := [(h, .inr (0, [ps_tape, .ref rp, ps_sha, ps_stock, ps_intake, .ref vw, .ref tx, ps_maker, ps_recording, ps_tapeLength, ps_lastFault])), (rp, .inl (cR, 8, .inr (.inr (.inr (.inr rf)))))]) [0, 1] rfl
  have hDc := hD.sub (ws' := [(h, .inr (0, [ps_tape, .ref rp, ps_sha, ps_stock, ps_intake, .ref vw, .ref tx, ps_maker, ps_recording, ps_tapeLength, ps_lastFault])), (rp, .inl (cR, 8, .inr (.inr (.inr (.inr rf)))))]) [0, 1] (by decide) rfl
  have hFc := va_free (wc := [(h, .inr (0, [ps_tape, .ref rp, ps_sha, ps_stock, ps_intake, .ref vw, .ref tx, ps_maker, ps_recording, ps_tapeLength, ps_lastFault])), (rp, .inl (cR, 8, .inr (.inr (.inr (.inr rf)))))]) hD hS hA [0, 1] rfl
  refine xc_call (xc_runV (As := [.int p0]) (rest := []) (C := "PatchStore") ⟨hx, hb, hml, hown, hts⟩ (m_PS_repositoryAt l dC dI cI cB cL cZ cR hlt h rp (ps_tape) (ps_sha) (ps_stock) (ps_intake) (.ref vw) (.ref tx) (ps_maker) (ps_recording) (ps_tapeLength) (ps_lastFault) g rf p0 s.heap.size hrf) (xc_bOf 1 hts (xg_in gw_703) (xc_Is.code (hts _ gw_703)) rfl rfl (hts _ gw_1) (by decide +kernel) ⟨Nat.le_of_ble_eq_true rfl, Nat.le_of_ble_eq_true rfl⟩) (hts _ gw_700) (hts _ gw_702) (hts _ (xg_p 2 (q := (⟨"PatchStore", "repositoryAt", "(I)LPatchStore$Repository;"⟩, 11)) (by decide +kernel))) ⟨xw_blindx, va_recv hK hPc (ci := 0) (q0 := 0) rfl rfl, fun U hU hW => ⟨rfl, by rw [hU], by rw [hU]; exact hPc, va_K.moved hW.alike hK, hDc.weaken (fun _ _ _ _ => trivial), xg_N.warm hW hN, by rw [hU]; exact ((hTh.kept (fun a h1 h2 => hS.2.1 a h1 h2)).narrow hFc).moved hW.alike⟩⟩ rfl rfl hl.1 rfl (lv_room (Nat.le_of_ble_eq_true rfl)) d_PS_call_2 ⟨Nat.le_of_ble_eq_true rfl, Nat.le_of_ble_eq_true rfl⟩) hS (fun q _ h => hFc q h) hFc (fun v9 u t H1 locs ht hvm hw hB hz1 hk1 hS => ?_) (fun x9 C9 u t H1 locs ht hvm hw hex hB hz1 hk1 hS => ?_)
  · obtain ⟨n0, hn0, en0, rfl⟩ := hw
    rw [hrr_rr n0 hn0 en0]
    obtain ⟨hP1, hK1, hD1⟩ := hB
    rw [ht] at hP1
    obtain ⟨hP, hD⟩ := va_join (wr := [(vw, .inr (11, [vw_files, .ref no, vw_namings, .int 0, .int 0, .ref sk, vw_changes, .null, .int 0, vw_over, .int 0, vw_heads, vw_nexts, vw_sharing])), (no, .inl (cI, 200, .inl f0)), (rr, .inr (7, [rr_members, rr_digest, rr_size, .int ver, rr_digestVersion])), (sk, .inr (9, [sk_bytes, sk_from, sk_firstDependency, sk_firstChange, sk_dependencies, sk_hashes, sk_byHash, sk_leansOn, sk_leantBy, sk_changes, sk_lines, .int 0]))]) (w1 := [(h, .inr (0, [ps_tape, .ref rp, ps_sha, ps_stock, ps_intake, .ref vw, .ref tx, ps_maker, ps_recording, ps_tapeLength, ps_lastFault])), (rp, .inl (cR, 8, .inr (.inr (.inr (.inr rf)))))]) hP hD [0, 1] [2, 3, 4, 5] rfl rfl (by decide) (by decide) hk1 hFc hP1 hD1
    generalize H1 = H at hP hS ht ⊢
    have hP : va_P (dC, dI) classes [(vw, .inr (11, [vw_files, .ref no, vw_namings, .int 0, .int 0, .ref sk, vw_changes, .null, .int 0, vw_over, .int 0, vw_heads, vw_nexts, vw_sharing])), (no, .inl (cI, 200, .inl f0)), (rr, .inr (7, [rr_members, rr_digest, rr_size, .int ver, rr_digestVersion])), (sk, .inr (9, [sk_bytes, sk_from, sk_firstDependency, sk_firstChange, sk_dependencies, sk_hashes, sk_byHash, sk_leansOn, sk_leantBy, sk_changes, sk_lines, .int 0])), (h, .inr (0, [ps_tape, .ref rp, ps_sha, ps_stock, ps_intake, .ref vw, .ref tx, ps_maker, ps_recording, ps_tapeLength, ps_lastFault])), (rp, .inl (cR, 8, .inr (.inr (.inr (.inr rf)))))] H := hP
    have hD : va_D A [(vw, .inr (11, [vw_files, .ref no, vw_namings, .int 0, .int 0, .ref sk, vw_changes, .null, .int 0, vw_over, .int 0, vw_heads, vw_nexts, vw_sharing])), (no, .inl (cI, 200, .inl f0)), (rr, .inr (7, [rr_members, rr_digest, rr_size, .int ver, rr_digestVersion])), (sk, .inr (9, [sk_bytes, sk_from, sk_firstDependency, sk_firstChange, sk_dependencies, sk_hashes, sk_byHash, sk_leansOn, sk_leantBy, sk_changes, sk_lines, .int 0])), (h, .inr (0, [ps_tape, .ref rp, ps_sha, ps_stock, ps_intake, .ref vw, .ref tx, ps_maker, ps_recording, ps_tapeLength, ps_lastFault])), (rp, .inl (cR, 8, .inr (.inr (.inr (.inr rf)))))] := hD
    refine W.eq (g2 := F0 m 5 ls [.ref rr]) rfl ?_
    refine W.widen (k := 1) (n := 6) (Nat.le_of_ble_eq_true rfl) (Nat.le_of_ble_eq_true rfl) ?_
    refine lv_astore_n (lv' := [(3, .ref rr), (0, .ref h), (1, .int p0), (2, .int p1)]) hx hb d_PS_call_5 rfl hl (by decide) rfl (fun ls hl => ?_)
    refine lv_aload_n hx hb d_PS_call_6 rfl (lv_at hl 1 rfl) ?_
    refine lv_aload_n hx hb d_PS_call_7 rfl (lv_at hl 0 rfl) ?_
    refine lv_iload_n hx hb d_PS_call_8 rfl (lv_at hl 3 rfl) ?_
    have hPc := hP.sub (ws' := [(h, .inr (0, [ps_tape, .ref rp, ps_sha, ps_stock, ps_intake, .ref vw, .ref tx, ps_maker, ps_recording, ps_tapeLength, ps_lastFault])), (vw, .inr (11, [vw_files, .ref no, vw_namings, .int 0, .int 0, .ref sk, vw_changes, .null, .int 0, vw_over, .int 0, vw_heads, vw_nexts, vw_sharing])), (no, .inl (cI, 200, .inl f0)), (rr, .inr (7, [rr_members, rr_digest, rr_size, .int ver, rr_digestVersion])), (sk, .inr (9, [sk_bytes, sk_from, sk_firstDependency, sk_firstChange, sk_dependencies, sk_hashes, sk_byHash, sk_leansOn, sk_leantBy, sk_changes, sk_lines, .int 0]))]) [4, 0, 1, 2, 3] rfl
    have hDc := hD.sub (ws' := [(h, .inr (0, [ps_tape, .ref rp, ps_sha, ps_stock, ps_intake, .ref vw, .ref tx, ps_maker, ps_recording, ps_tapeLength, ps_lastFault])), (vw, .inr (11, [vw_files, .ref no, vw_namings, .int 0, .int 0, .ref sk, vw_changes, .null, .int 0, vw_over, .int 0, vw_heads, vw_nexts, vw_sharing])), (no, .inl (cI, 200, .inl f0)), (rr, .inr (7, [rr_members, rr_digest, rr_size, .int ver, rr_digestVersion])), (sk, .inr (9, [sk_bytes, sk_from, sk_firstDependency, sk_firstChange, sk_dependencies, sk_hashes, sk_byHash, sk_leansOn, sk_leantBy, sk_changes, sk_lines, .int 0]))]) [4, 0, 1, 2, 3] (by decide) rfl
    have hFc := va_free (wc := [(h, .inr (0, [ps_tape, .ref rp, ps_sha, ps_stock, ps_intake, .ref vw, .ref tx, ps_maker, ps_recording, ps_tapeLength, ps_lastFault])), (vw, .inr (11, [vw_files, .ref no, vw_namings, .int 0, .int 0, .ref sk, vw_changes, .null, .int 0, vw_over, .int 0, vw_heads, vw_nexts, vw_sharing])), (no, .inl (cI, 200, .inl f0)), (rr, .inr (7, [rr_members, rr_digest, rr_size, .int ver, rr_digestVersion])), (sk, .inr (9, [sk_bytes, sk_from, sk_firstDependency, sk_firstChange, sk_dependencies, sk_hashes, sk_byHash, sk_leansOn, sk_leantBy, sk_changes, sk_lines, .int 0]))]) hD hS hA [4, 0, 1, 2, 3] rfl
    refine xc_call (xc_runV (As := [.ref rr, .int p1]) (rest := []) (C := "PatchStore") ⟨hx, hb, hml, hown, hts⟩ (m_PS_fileAt0 l dC dI cI cB cL cZ cR hlt h vw no rr sk (ps_tape) (.ref rp) (ps_sha) (ps_stock) (ps_intake) (.ref tx) (ps_maker) (ps_recording) (ps_tapeLength) (ps_lastFault) (vw_files) (vw_namings) (vw_changes) (vw_over) (vw_heads) (vw_nexts) (vw_sharing) (rr_members) (rr_digest) (rr_size) (rr_digestVersion) (sk_bytes) (sk_from) (sk_firstDependency) (sk_firstChange) (sk_dependencies) (sk_hashes) (sk_byHash) (sk_leansOn) (sk_leantBy) (sk_changes) (sk_lines) ver f0 p1 H.size ) (xc_bOf 2 hts (xg_in gw_994) (xc_Is.code (hts _ gw_994)) rfl rfl (hts _ gw_1) (by decide +kernel) ⟨Nat.le_of_ble_eq_true rfl, Nat.le_of_ble_eq_true rfl⟩) (hts _ gw_991) (hts _ gw_993) (hts _ (xg_p 34 (q := (⟨"PatchStore", "fileAt", "(LPatchStore$Repository;I)I"⟩, 11)) (by decide +kernel))) ⟨xw_blindx, va_recv hK hPc (ci := 0) (q0 := 0) rfl rfl, fun U hU hW => ⟨rfl, by rw [hU], by rw [hU]; exact hPc, va_K.moved hW.alike hK, hDc.weaken (fun _ _ _ _ => trivial), xg_N.warm hW hN, by rw [hU]; exact ((hTh.kept (fun a h1 h2 => hS.2.1 a h1 h2)).narrow hFc).moved hW.alike⟩⟩ rfl rfl hl.1 rfl (lv_room (Nat.le_of_ble_eq_true rfl)) d_PS_call_9 ⟨Nat.le_of_ble_eq_true rfl, Nat.le_of_ble_eq_true rfl⟩) hS (fun q _ h => hFc q h) hFc (fun v9 u t H1 locs ht hvm hw hB hz1 hk1 hS => ?_) (fun x9 C9 u t H1 locs ht hvm hw hex hB hz1 hk1 hS => ?_)
    · skip
      exact False.elim hw
    · obtain rfl : C9 = "java/util/NoSuchElementException" := hw
      refine xc_TW.widen (k := 2) (n := 12) (Nat.le_of_ble_eq_true rfl) (Nat.le_of_ble_eq_true rfl) ?_
      exact xc_pass (u := ()) hlocks hno ht hvm hex (Or.inr ⟨⟨n0, hn0, en0⟩, rfl⟩) (fun _ _ _ => trivial) hS
  · obtain ⟨hbad, rfl⟩ := hw
    refine xc_TW.widen (k := 2) (n := 12) (Nat.le_of_ble_eq_true rfl) (Nat.le_of_ble_eq_true rfl) ?_
    exact xc_pass (u := ()) hlocks hno ht hvm hex (Or.inl ⟨hbad, rfl⟩) (fun _ _ _ => trivial) hS
set_option maxHeartbeats 4000000 in
set_option maxRecDepth 100000 in
/-- record on a fresh object -/
theorem m_PS_record0 (l : Launch) (dC : Nat → ClassId) (dI : Nat → Nat → Nat) (cI cB cL cZ cR : ClassId) (hlt : xl_T l) (h rp vw tx no rr sk : Nat) (ps_tape ps_sha ps_stock ps_intake ps_maker ps_recording ps_tapeLength ps_lastFault vw_files vw_namings vw_changes vw_over vw_heads vw_nexts vw_sharing rr_members rr_digest rr_size rr_digestVersion sk_bytes sk_from sk_firstDependency sk_firstChange sk_dependencies sk_hashes sk_byHash sk_leansOn sk_leantBy sk_changes sk_lines : Value) (ver : Int32) (f0 : Nat → Int32) (g : Nat → Nat) (rf : Nat → Option Nat) (p0 p1 : Int32) (sz : Nat) (hrf : ∀ k, k < 8 → rf k = some (g k)) (hrr_rr : ∀ n, n < 8 → p0 = nI n → g n = rr) : xc_Met l y_PS_record ws_PS_record ({ frames := 14, cells := 2, slots := 12, locals := 400 }) (xw_Px dC dI [(cI, .int), (cB, .byte), (cL, .long), (cZ, .boolean), (cR, .object "PatchStore$Repository")] [.ref h, .int p0, .int p1] [(h, .inr (0, [ps_tape, .ref rp, ps_sha, ps_stock, ps_intake, .ref vw, .ref tx, ps_maker, ps_recording, ps_tapeLength, ps_lastFault])), (rp, .inl (cR, 8, .inr (.inr (.inr (.inr rf))))), (vw, .inr (11, [vw_files, .ref no, vw_namings, .int 0, .int 0, .ref sk, vw_changes, .null, .int 0, vw_over, .int 0, vw_heads, vw_nexts, vw_sharing])), (no, .inl (cI, 200, .inl f0)), (rr, .inr (7, [rr_members, rr_digest, rr_size, .int ver, rr_digestVersion])), (sk, .inr (9, [sk_bytes, sk_from, sk_firstDependency, sk_firstChange, sk_dependencies, sk_hashes, sk_byHash, sk_leansOn, sk_leantBy, sk_changes, sk_lines, .int 0]))] sz) (xc_Q (S := Unit) (fun _ (_ : Unit) => False) (fun C (_ : Unit) => ((¬ ∃ n : Nat, n < 8 ∧ p0 = nI n) ∧ C = "java/util/NoSuchElementException") ∨ ((∃ n : Nat, n < 8 ∧ p0 = nI n) ∧ C = "java/util/NoSuchElementException")) (fun _ _ => True) (va_A [(h, .inr (0, [ps_tape, .ref rp, ps_sha, ps_stock, ps_intake, .ref vw, .ref tx, ps_maker, ps_recording, ps_tapeLength, ps_lastFault])), (rp, .inl (cR, 8, .inr (.inr (.inr (.inr rf))))), (vw, .inr (11, [vw_files, .ref no, vw_namings, .int 0, .int 0, .ref sk, vw_changes, .null, .int 0, vw_over, .int 0, vw_heads, vw_nexts, vw_sharing])), (no, .inl (cI, 200, .inl f0)), (rr, .inr (7, [rr_members, rr_digest, rr_size, .int ver, rr_digestVersion])), (sk, .inr (9, [sk_bytes, sk_from, sk_firstDependency, sk_firstChange, sk_dependencies, sk_hashes, sk_byHash, sk_leansOn, sk_leantBy, sk_changes, sk_lines, .int 0]))] sz)) 2 12 (va_A [(h, .inr (0, [ps_tape, .ref rp, ps_sha, ps_stock, ps_intake, .ref vw, .ref tx, ps_maker, ps_recording, ps_tapeLength, ps_lastFault])), (rp, .inl (cR, 8, .inr (.inr (.inr (.inr rf))))), (vw, .inr (11, [vw_files, .ref no, vw_namings, .int 0, .int 0, .ref sk, vw_changes, .null, .int 0, vw_over, .int 0, vw_heads, vw_nexts, vw_sharing])), (no, .inl (cI, 200, .inl f0)), (rr, .inr (7, [rr_members, rr_digest, rr_size, .int ver, rr_digestVersion])), (sk, .inr (9, [sk_bytes, sk_from, sk_firstDependency, sk_firstChange, sk_dependencies, sk_hashes, sk_byHash, sk_leansOn, sk_leantBy, sk_changes, sk_lines, .int 0]))] sz) := by
  refine xc_ofW (cc := prog_1_method_6_code) (maxL := 5) (ret := (Option.some Jvm.ClassFile.FieldType.int)) (by decide) rfl ?_
  intro p e s m args below meth c s₁ B hml hno hv
  obtain ⟨rfl, hsz, hP, hK, hD0, hN, hTh⟩ := hv
  have htr : e.platform.stackTraces = false := hlt e B.admits
  have hx := B.exec
  have hb := B.bytes
  have hr := B.returns
  have hts0 := atoms_spec (ws := ws_PS_record) B.pre
  have hts : ∀ w ∈ xg_1, w.before _ s = true := fun w h => hts0 w (List.mem_cons_of_mem _ h)
  have hown : s.vm.findClass "PatchStore" = some m.cls := findClass_of_methodNamed B.named
  have hlocks := B.notSynchronized
  subst hsz
  have hD := hD0.self (sz := s.heap.size)
  generalize hAe : va_A [(h, .inr (0, [ps_tape, .ref rp, ps_sha, ps_stock, ps_intake, .ref vw, .ref tx, ps_maker, ps_recording, ps_tapeLength, ps_lastFault])), (rp, .inl (cR, 8, .inr (.inr (.inr (.inr rf))))), (vw, .inr (11, [vw_files, .ref no, vw_namings, .int 0, .int 0, .ref sk, vw_changes, .null, .int 0, vw_over, .int 0, vw_heads, vw_nexts, vw_sharing])), (no, .inl (cI, 200, .inl f0)), (rr, .inr (7, [rr_members, rr_digest, rr_size, .int ver, rr_digestVersion])), (sk, .inr (9, [sk_bytes, sk_from, sk_firstDependency, sk_firstChange, sk_dependencies, sk_hashes, sk_byHash, sk_leansOn, sk_leantBy, sk_changes, sk_lines, .int 0]))] s.heap.size = A at hD hTh ⊢
  have hA : ∀ q : Nat, s.heap.size ≤ q → A q := fun q h => by rw [← hAe]; exact Or.inr h
  have hS : va_S A s.heap s.heap [] := va_S.rf
  have hl := lv_entry ([.ref h, .int p0, .int p1]) (n := 5) (Nat.le_of_ble_eq_true rfl)
  rw [lg_entry_eq]
  generalize (lg_sl ([.ref h, .int p0, .int p1]) ++ List.replicate (5 - (lg_sl ([.ref h, .int p0, .int p1])).length) Slot.unset).toArray = ls at hl ⊢
  have hl : lv_has ls 5 [(0, .ref h), (1, .int p0), (2, .int p1)] := hl
  refine lv_aload_n hx hb d_PS_record_0 rfl (lv_at hl 0 rfl) ?_
  refine lv_iload_n hx hb d_PS_record_1 rfl (lv_at hl 1 rfl) ?_
  have hPc := hP.sub (ws' := [(h, .inr (0, [ps_tape, .ref rp, ps_sha, ps_stock, ps_intake, .ref vw, .ref tx, ps_maker, ps_recording, ps_tapeLength, ps_lastFault])), (rp, .inl (cR, 8, .inr (.inr (.inr (.inr rf)))))]) [0, 1] rfl
  have hDc := hD.sub (ws' := [(h, .inr (0, [ps_tape, .ref rp, ps_sha, ps_stock, ps_intake, .ref vw, .ref tx, ps_maker, ps_recording, ps_tapeLength, ps_lastFault])), (rp, .inl (cR, 8, .inr (.inr (.inr (.inr rf)))))]) [0, 1] (by decide) rfl
  have hFc := va_free (wc := [(h, .inr (0, [ps_tape, .ref rp, ps_sha, ps_stock, ps_intake, .ref vw, .ref tx, ps_maker, ps_recording, ps_tapeLength, ps_lastFault])), (rp, .inl (cR, 8, .inr (.inr (.inr (.inr rf)))))]) hD hS hA [0, 1] rfl
  refine xc_call (xc_runV (As := [.int p0]) (rest := []) (C := "PatchStore") ⟨hx, hb, hml, hown, hts⟩ (m_PS_repositoryAt l dC dI cI cB cL cZ cR hlt h rp (ps_tape) (ps_sha) (ps_stock) (ps_intake) (.ref vw) (.ref tx) (ps_maker) (ps_recording) (ps_tapeLength) (ps_lastFault) g rf p0 s.heap.size hrf) (xc_bOf 1 hts (xg_in gw_703) (xc_Is.code (hts _ gw_703)) rfl rfl (hts _ gw_1) (by decide +kernel) ⟨Nat.le_of_ble_eq_true rfl, Nat.le_of_ble_eq_true rfl⟩) (hts _ gw_700) (hts _ gw_702) (hts _ (xg_p 2 (q := (⟨"PatchStore", "repositoryAt", "(I)LPatchStore$Repository;"⟩, 11)) (by decide +kernel))) ⟨xw_blindx, va_recv hK hPc (ci := 0) (q0 := 0) rfl rfl, fun U hU hW => ⟨rfl, by rw [hU], by rw [hU]; exact hPc, va_K.moved hW.alike hK, hDc.weaken (fun _ _ _ _ => trivial), xg_N.warm hW hN, by rw [hU]; exact ((hTh.kept (fun a h1 h2 => hS.2.1 a h1 h2)).narrow hFc).moved hW.alike⟩⟩ rfl rfl hl.1 rfl (lv_room (Nat.le_of_ble_eq_true rfl)) d_PS_record_2 ⟨Nat.le_of_ble_eq_true rfl, Nat.le_of_ble_eq_true rfl⟩) hS (fun q _ h => hFc q h) hFc (fun v9 u t H1 locs ht hvm hw hB hz1 hk1 hS => ?_) (fun x9 C9 u t H1 locs ht hvm hw hex hB hz1 hk1 hS => ?_)
  · obtain ⟨n0, hn0, en0, rfl⟩ := hw
    rw [hrr_rr n0 hn0 en0]
    obtain ⟨hP1, hK1, hD1⟩ := hB
    rw [ht] at hP1
    obtain ⟨hP, hD⟩ := va_join (wr := [(vw, .inr (11, [vw_files, .ref no, vw_namings, .int 0, .int 0, .ref sk, vw_changes, .null, .int 0, vw_over, .int 0, vw_heads, vw_nexts, vw_sharing])), (no, .inl (cI, 200, .inl f0)), (rr, .inr (7, [rr_members, rr_digest, rr_size, .int ver, rr_digestVersion])), (sk, .inr (9, [sk_bytes, sk_from, sk_firstDependency, sk_firstChange, sk_dependencies, sk_hashes, sk_byHash, sk_leansOn, sk_leantBy, sk_changes, sk_lines, .int 0]))]) (w1 := [(h, .inr (0, [ps_tape, .ref rp, ps_sha, ps_stock, ps_intake, .ref vw, .ref tx, ps_maker, ps_recording, ps_tapeLength, ps_lastFault])), (rp, .inl (cR, 8, .inr (.inr (.inr (.inr rf)))))]) hP hD [0, 1] [2, 3, 4, 5] rfl rfl (by decide) (by decide) hk1 hFc hP1 hD1
    generalize H1 = H at hP hS ht ⊢
    have hP : va_P (dC, dI) classes [(vw, .inr (11, [vw_files, .ref no, vw_namings, .int 0, .int 0, .ref sk, vw_changes, .null, .int 0, vw_over, .int 0, vw_heads, vw_nexts, vw_sharing])), (no, .inl (cI, 200, .inl f0)), (rr, .inr (7, [rr_members, rr_digest, rr_size, .int ver, rr_digestVersion])), (sk, .inr (9, [sk_bytes, sk_from, sk_firstDependency, sk_firstChange, sk_dependencies, sk_hashes, sk_byHash, sk_leansOn, sk_leantBy, sk_changes, sk_lines, .int 0])), (h, .inr (0, [ps_tape, .ref rp, ps_sha, ps_stock, ps_intake, .ref vw, .ref tx, ps_maker, ps_recording, ps_tapeLength, ps_lastFault])), (rp, .inl (cR, 8, .inr (.inr (.inr (.inr rf)))))] H := hP
    have hD : va_D A [(vw, .inr (11, [vw_files, .ref no, vw_namings, .int 0, .int 0, .ref sk, vw_changes, .null, .int 0, vw_over, .int 0, vw_heads, vw_nexts, vw_sharing])), (no, .inl (cI, 200, .inl f0)), (rr, .inr (7, [rr_members, rr_digest, rr_size, .int ver, rr_digestVersion])), (sk, .inr (9, [sk_bytes, sk_from, sk_firstDependency, sk_firstChange, sk_dependencies, sk_hashes, sk_byHash, sk_leansOn, sk_leantBy, sk_changes, sk_lines, .int 0])), (h, .inr (0, [ps_tape, .ref rp, ps_sha, ps_stock, ps_intake, .ref vw, .ref tx, ps_maker, ps_recording, ps_tapeLength, ps_lastFault])), (rp, .inl (cR, 8, .inr (.inr (.inr (.inr rf)))))] := hD
    refine W.eq (g2 := F0 m 5 ls [.ref rr]) rfl ?_
    refine W.widen (k := 1) (n := 6) (Nat.le_of_ble_eq_true rfl) (Nat.le_of_ble_eq_true rfl) ?_
    refine lv_astore_n (lv' := [(3, .ref rr), (0, .ref h), (1, .int p0), (2, .int p1)]) hx hb d_PS_record_5 rfl hl (by decide) rfl (fun ls hl => ?_)
    refine lv_aload_n hx hb d_PS_record_6 rfl (lv_at hl 1 rfl) ?_
    refine lv_aload_n hx hb d_PS_record_7 rfl (lv_at hl 0 rfl) ?_
    refine lv_iload_n hx hb d_PS_record_8 rfl (lv_at hl 3 rfl) ?_
    have hPc := hP.sub (ws' := [(h, .inr (0, [ps_tape, .ref rp, ps_sha, ps_stock, ps_intake, .ref vw, .ref tx, ps_maker, ps_recording, ps_tapeLength, ps_lastFault])), (vw, .inr (11, [vw_files, .ref no, vw_namings, .int 0, .int 0, .ref sk, vw_changes, .null, .int 0, vw_over, .int 0, vw_heads, vw_nexts, vw_sharing])), (no, .inl (cI, 200, .inl f0)), (rr, .inr (7, [rr_members, rr_digest, rr_size, .int ver, rr_digestVersion])), (sk, .inr (9, [sk_bytes, sk_from, sk_firstDependency, sk_firstChange, sk_dependencies, sk_hashes, sk_byHash, sk_leansOn, sk_leantBy, sk_changes, sk_lines, .int 0]))]) [4, 0, 1, 2, 3] rfl
    have hDc := hD.sub (ws' := [(h, .inr (0, [ps_tape, .ref rp, ps_sha, ps_stock, ps_intake, .ref vw, .ref tx, ps_maker, ps_recording, ps_tapeLength, ps_lastFault])), (vw, .inr (11, [vw_files, .ref no, vw_namings, .int 0, .int 0, .ref sk, vw_changes, .null, .int 0, vw_over, .int 0, vw_heads, vw_nexts, vw_sharing])), (no, .inl (cI, 200, .inl f0)), (rr, .inr (7, [rr_members, rr_digest, rr_size, .int ver, rr_digestVersion])), (sk, .inr (9, [sk_bytes, sk_from, sk_firstDependency, sk_firstChange, sk_dependencies, sk_hashes, sk_byHash, sk_leansOn, sk_leantBy, sk_changes, sk_lines, .int 0]))]) [4, 0, 1, 2, 3] (by decide) rfl
    have hFc := va_free (wc := [(h, .inr (0, [ps_tape, .ref rp, ps_sha, ps_stock, ps_intake, .ref vw, .ref tx, ps_maker, ps_recording, ps_tapeLength, ps_lastFault])), (vw, .inr (11, [vw_files, .ref no, vw_namings, .int 0, .int 0, .ref sk, vw_changes, .null, .int 0, vw_over, .int 0, vw_heads, vw_nexts, vw_sharing])), (no, .inl (cI, 200, .inl f0)), (rr, .inr (7, [rr_members, rr_digest, rr_size, .int ver, rr_digestVersion])), (sk, .inr (9, [sk_bytes, sk_from, sk_firstDependency, sk_firstChange, sk_dependencies, sk_hashes, sk_byHash, sk_leansOn, sk_leantBy, sk_changes, sk_lines, .int 0]))]) hD hS hA [4, 0, 1, 2, 3] rfl
    refine xc_call (xc_runV (As := [.ref rr, .int p1]) (rest := []) (C := "PatchStore") ⟨hx, hb, hml, hown, hts⟩ (m_PS_fileAt0 l dC dI cI cB cL cZ cR hlt h vw no rr sk (ps_tape) (.ref rp) (ps_sha) (ps_stock) (ps_intake) (.ref tx) (ps_maker) (ps_recording) (ps_tapeLength) (ps_lastFault) (vw_files) (vw_namings) (vw_changes) (vw_over) (vw_heads) (vw_nexts) (vw_sharing) (rr_members) (rr_digest) (rr_size) (rr_digestVersion) (sk_bytes) (sk_from) (sk_firstDependency) (sk_firstChange) (sk_dependencies) (sk_hashes) (sk_byHash) (sk_leansOn) (sk_leantBy) (sk_changes) (sk_lines) ver f0 p1 H.size ) (xc_bOf 2 hts (xg_in gw_994) (xc_Is.code (hts _ gw_994)) rfl rfl (hts _ gw_1) (by decide +kernel) ⟨Nat.le_of_ble_eq_true rfl, Nat.le_of_ble_eq_true rfl⟩) (hts _ gw_991) (hts _ gw_993) (hts _ (xg_p 34 (q := (⟨"PatchStore", "fileAt", "(LPatchStore$Repository;I)I"⟩, 11)) (by decide +kernel))) ⟨xw_blindx, va_recv hK hPc (ci := 0) (q0 := 0) rfl rfl, fun U hU hW => ⟨rfl, by rw [hU], by rw [hU]; exact hPc, va_K.moved hW.alike hK, hDc.weaken (fun _ _ _ _ => trivial), xg_N.warm hW hN, by rw [hU]; exact ((hTh.kept (fun a h1 h2 => hS.2.1 a h1 h2)).narrow hFc).moved hW.alike⟩⟩ rfl rfl hl.1 rfl (lv_room (Nat.le_of_ble_eq_true rfl)) d_PS_record_9 ⟨Nat.le_of_ble_eq_true rfl, Nat.le_of_ble_eq_true rfl⟩) hS (fun q _ h => hFc q h) hFc (fun v9 u t H1 locs ht hvm hw hB hz1 hk1 hS => ?_) (fun x9 C9 u t H1 locs ht hvm hw hex hB hz1 hk1 hS => ?_)
    · skip
      exact False.elim hw
    · obtain rfl : C9 = "java/util/NoSuchElementException" := hw
      refine xc_TW.widen (k := 2) (n := 12) (Nat.le_of_ble_eq_true rfl) (Nat.le_of_ble_eq_true rfl) ?_
      exact xc_pass (u := ()) hlocks hno ht hvm hex (Or.inr ⟨⟨n0, hn0, en0⟩, rfl⟩) (fun _ _ _ => trivial) hS
  · obtain ⟨hbad, rfl⟩ := hw
    refine xc_TW.widen (k := 2) (n := 12) (Nat.le_of_ble_eq_true rfl) (Nat.le_of_ble_eq_true rfl) ?_
    exact xc_pass (u := ()) hlocks hno ht hvm hex (Or.inl ⟨hbad, rfl⟩) (fun _ _ _ => trivial) hS
set_option maxHeartbeats 4000000 in
set_option maxRecDepth 100000 in
/-- file on a fresh object -/
theorem m_PS_file0 (l : Launch) (dC : Nat → ClassId) (dI : Nat → Nat → Nat) (cI cB cL cZ cR : ClassId) (hlt : xl_T l) (h rp vw tx no rr sk : Nat) (ps_tape ps_sha ps_stock ps_intake ps_maker ps_recording ps_tapeLength ps_lastFault vw_files vw_namings vw_changes vw_over vw_heads vw_nexts vw_sharing rr_members rr_digest rr_size rr_digestVersion sk_bytes sk_from sk_firstDependency sk_firstChange sk_dependencies sk_hashes sk_byHash sk_leansOn sk_leantBy sk_changes sk_lines : Value) (ver : Int32) (f0 : Nat → Int32) (g : Nat → Nat) (rf : Nat → Option Nat) (p0 p1 p2 : Int32) (sz : Nat) (hrf : ∀ k, k < 8 → rf k = some (g k)) (hrr_rr : ∀ n, n < 8 → p0 = nI n → g n = rr) : xc_Met l y_PS_file ws_PS_file ({ frames := 14, cells := 2, slots := 12, locals := 400 }) (xw_Px dC dI [(cI, .int), (cB, .byte), (cL, .long), (cZ, .boolean), (cR, .object "PatchStore$Repository")] [.ref h, .int p0, .int p1, .int p2] [(h, .inr (0, [ps_tape, .ref rp, ps_sha, ps_stock, ps_intake, .ref vw, .ref tx, ps_maker, ps_recording, ps_tapeLength, ps_lastFault])), (rp, .inl (cR, 8, .inr (.inr (.inr (.inr rf))))), (vw, .inr (11, [vw_files, .ref no, vw_namings, .int 0, .int 0, .ref sk, vw_changes, .null, .int 0, vw_over, .int 0, vw_heads, vw_nexts, vw_sharing])), (no, .inl (cI, 200, .inl f0)), (rr, .inr (7, [rr_members, rr_digest, rr_size, .int ver, rr_digestVersion])), (sk, .inr (9, [sk_bytes, sk_from, sk_firstDependency, sk_firstChange, sk_dependencies, sk_hashes, sk_byHash, sk_leansOn, sk_leantBy, sk_changes, sk_lines, .int 0]))] sz) (xc_Q (S := Unit) (fun _ (_ : Unit) => False) (fun C (_ : Unit) => ((¬ ∃ n : Nat, n < 8 ∧ p0 = nI n) ∧ C = "java/util/NoSuchElementException") ∨ ((∃ n : Nat, n < 8 ∧ p0 = nI n) ∧ C = "java/util/NoSuchElementException")) (fun _ _ => True) (va_A [(h, .inr (0, [ps_tape, .ref rp, ps_sha, ps_stock, ps_intake, .ref vw, .ref tx, ps_maker, ps_recording, ps_tapeLength, ps_lastFault])), (rp, .inl (cR, 8, .inr (.inr (.inr (.inr rf))))), (vw, .inr (11, [vw_files, .ref no, vw_namings, .int 0, .int 0, .ref sk, vw_changes, .null, .int 0, vw_over, .int 0, vw_heads, vw_nexts, vw_sharing])), (no, .inl (cI, 200, .inl f0)), (rr, .inr (7, [rr_members, rr_digest, rr_size, .int ver, rr_digestVersion])), (sk, .inr (9, [sk_bytes, sk_from, sk_firstDependency, sk_firstChange, sk_dependencies, sk_hashes, sk_byHash, sk_leansOn, sk_leantBy, sk_changes, sk_lines, .int 0]))] sz)) 2 12 (va_A [(h, .inr (0, [ps_tape, .ref rp, ps_sha, ps_stock, ps_intake, .ref vw, .ref tx, ps_maker, ps_recording, ps_tapeLength, ps_lastFault])), (rp, .inl (cR, 8, .inr (.inr (.inr (.inr rf))))), (vw, .inr (11, [vw_files, .ref no, vw_namings, .int 0, .int 0, .ref sk, vw_changes, .null, .int 0, vw_over, .int 0, vw_heads, vw_nexts, vw_sharing])), (no, .inl (cI, 200, .inl f0)), (rr, .inr (7, [rr_members, rr_digest, rr_size, .int ver, rr_digestVersion])), (sk, .inr (9, [sk_bytes, sk_from, sk_firstDependency, sk_firstChange, sk_dependencies, sk_hashes, sk_byHash, sk_leansOn, sk_leantBy, sk_changes, sk_lines, .int 0]))] sz) := by
  refine xc_ofW (cc := prog_1_method_16_code) (maxL := 6) (ret := (Option.some Jvm.ClassFile.FieldType.int)) (by decide) rfl ?_
  intro p e s m args below meth c s₁ B hml hno hv
  obtain ⟨rfl, hsz, hP, hK, hD0, hN, hTh⟩ := hv
  have htr : e.platform.stackTraces = false := hlt e B.admits
  have hx := B.exec
  have hb := B.bytes
  have hr := B.returns
  have hts0 := atoms_spec (ws := ws_PS_file) B.pre
  have hts : ∀ w ∈ xg_1, w.before _ s = true := fun w h => hts0 w (List.mem_cons_of_mem _ h)
  have hown : s.vm.findClass "PatchStore" = some m.cls := findClass_of_methodNamed B.named
  have hlocks := B.notSynchronized
  subst hsz
  have hD := hD0.self (sz := s.heap.size)
  generalize hAe : va_A [(h, .inr (0, [ps_tape, .ref rp, ps_sha, ps_stock, ps_intake, .ref vw, .ref tx, ps_maker, ps_recording, ps_tapeLength, ps_lastFault])), (rp, .inl (cR, 8, .inr (.inr (.inr (.inr rf))))), (vw, .inr (11, [vw_files, .ref no, vw_namings, .int 0, .int 0, .ref sk, vw_changes, .null, .int 0, vw_over, .int 0, vw_heads, vw_nexts, vw_sharing])), (no, .inl (cI, 200, .inl f0)), (rr, .inr (7, [rr_members, rr_digest, rr_size, .int ver, rr_digestVersion])), (sk, .inr (9, [sk_bytes, sk_from, sk_firstDependency, sk_firstChange, sk_dependencies, sk_hashes, sk_byHash, sk_leansOn, sk_leantBy, sk_changes, sk_lines, .int 0]))] s.heap.size = A at hD hTh ⊢
  have hA : ∀ q : Nat, s.heap.size ≤ q → A q := fun q h => by rw [← hAe]; exact Or.inr h
  have hS : va_S A s.heap s.heap [] := va_S.rf
  have hl := lv_entry ([.ref h, .int p0, .int p1, .int p2]) (n := 6) (Nat.le_of_ble_eq_true rfl)
  rw [lg_entry_eq]
  generalize (lg_sl ([.ref h, .int p0, .int p1, .int p2]) ++ List.replicate (6 - (lg_sl ([.ref h, .int p0, .int p1, .int p2])).length) Slot.unset).toArray = ls at hl ⊢
  have hl : lv_has ls 6 [(0, .ref h), (1, .int p0), (2, .int p1), (3, .int p2)] := hl
  refine lv_aload_n hx hb d_PS_file_0 rfl (lv_at hl 0 rfl) ?_
  refine lv_iload_n hx hb d_PS_file_1 rfl (lv_at hl 1 rfl) ?_
  have hPc := hP.sub (ws' := [(h, .inr (0, [ps_tape, .ref rp, ps_sha, ps_stock, ps_intake, .ref vw, .ref tx, ps_maker, ps_recording, ps_tapeLength, ps_lastFault])), (rp, .inl (cR, 8, .inr (.inr (.inr (.inr rf)))))]) [0, 1] rfl
  have hDc := hD.sub (ws' := [(h, .inr (0, [ps_tape, .ref rp, ps_sha, ps_stock, ps_intake, .ref vw, .ref tx, ps_maker, ps_recording, ps_tapeLength, ps_lastFault])), (rp, .inl (cR, 8, .inr (.inr (.inr (.inr rf)))))]) [0, 1] (by decide) rfl
  have hFc := va_free (wc := [(h, .inr (0, [ps_tape, .ref rp, ps_sha, ps_stock, ps_intake, .ref vw, .ref tx, ps_maker, ps_recording, ps_tapeLength, ps_lastFault])), (rp, .inl (cR, 8, .inr (.inr (.inr (.inr rf)))))]) hD hS hA [0, 1] rfl
  refine xc_call (xc_runV (As := [.int p0]) (rest := []) (C := "PatchStore") ⟨hx, hb, hml, hown, hts⟩ (m_PS_repositoryAt l dC dI cI cB cL cZ cR hlt h rp (ps_tape) (ps_sha) (ps_stock) (ps_intake) (.ref vw) (.ref tx) (ps_maker) (ps_recording) (ps_tapeLength) (ps_lastFault) g rf p0 s.heap.size hrf) (xc_bOf 1 hts (xg_in gw_703) (xc_Is.code (hts _ gw_703)) rfl rfl (hts _ gw_1) (by decide +kernel) ⟨Nat.le_of_ble_eq_true rfl, Nat.le_of_ble_eq_true rfl⟩) (hts _ gw_700) (hts _ gw_702) (hts _ (xg_p 2 (q := (⟨"PatchStore", "repositoryAt", "(I)LPatchStore$Repository;"⟩, 11)) (by decide +kernel))) ⟨xw_blindx, va_recv hK hPc (ci := 0) (q0 := 0) rfl rfl, fun U hU hW => ⟨rfl, by rw [hU], by rw [hU]; exact hPc, va_K.moved hW.alike hK, hDc.weaken (fun _ _ _ _ => trivial), xg_N.warm hW hN, by rw [hU]; exact ((hTh.kept (fun a h1 h2 => hS.2.1 a h1 h2)).narrow hFc).moved hW.alike⟩⟩ rfl rfl hl.1 rfl (lv_room (Nat.le_of_ble_eq_true rfl)) d_PS_file_2 ⟨Nat.le_of_ble_eq_true rfl, Nat.le_of_ble_eq_true rfl⟩) hS (fun q _ h => hFc q h) hFc (fun v9 u t H1 locs ht hvm hw hB hz1 hk1 hS => ?_) (fun x9 C9 u t H1 locs ht hvm hw hex hB hz1 hk1 hS => ?_)
  · obtain ⟨n0, hn0, en0, rfl⟩ := hw
    rw [hrr_rr n0 hn0 en0]
    obtain ⟨hP1, hK1, hD1⟩ := hB
    rw [ht] at hP1
    obtain ⟨hP, hD⟩ := va_join (wr := [(vw, .inr (11, [vw_files, .ref no, vw_namings, .int 0, .int 0, .ref sk, vw_changes, .null, .int 0, vw_over, .int 0, vw_heads, vw_nexts, vw_sharing])), (no, .inl (cI, 200, .inl f0)), (rr, .inr (7, [rr_members, rr_digest, rr_size, .int ver, rr_digestVersion])), (sk, .inr (9, [sk_bytes, sk_from, sk_firstDependency, sk_firstChange, sk_dependencies, sk_hashes, sk_byHash, sk_leansOn, sk_leantBy, sk_changes, sk_lines, .int 0]))]) (w1 := [(h, .inr (0, [ps_tape, .ref rp, ps_sha, ps_stock, ps_intake, .ref vw, .ref tx, ps_maker, ps_recording, ps_tapeLength, ps_lastFault])), (rp, .inl (cR, 8, .inr (.inr (.inr (.inr rf)))))]) hP hD [0, 1] [2, 3, 4, 5] rfl rfl (by decide) (by decide) hk1 hFc hP1 hD1
    generalize H1 = H at hP hS ht ⊢
    have hP : va_P (dC, dI) classes [(vw, .inr (11, [vw_files, .ref no, vw_namings, .int 0, .int 0, .ref sk, vw_changes, .null, .int 0, vw_over, .int 0, vw_heads, vw_nexts, vw_sharing])), (no, .inl (cI, 200, .inl f0)), (rr, .inr (7, [rr_members, rr_digest, rr_size, .int ver, rr_digestVersion])), (sk, .inr (9, [sk_bytes, sk_from, sk_firstDependency, sk_firstChange, sk_dependencies, sk_hashes, sk_byHash, sk_leansOn, sk_leantBy, sk_changes, sk_lines, .int 0])), (h, .inr (0, [ps_tape, .ref rp, ps_sha, ps_stock, ps_intake, .ref vw, .ref tx, ps_maker, ps_recording, ps_tapeLength, ps_lastFault])), (rp, .inl (cR, 8, .inr (.inr (.inr (.inr rf)))))] H := hP
    have hD : va_D A [(vw, .inr (11, [vw_files, .ref no, vw_namings, .int 0, .int 0, .ref sk, vw_changes, .null, .int 0, vw_over, .int 0, vw_heads, vw_nexts, vw_sharing])), (no, .inl (cI, 200, .inl f0)), (rr, .inr (7, [rr_members, rr_digest, rr_size, .int ver, rr_digestVersion])), (sk, .inr (9, [sk_bytes, sk_from, sk_firstDependency, sk_firstChange, sk_dependencies, sk_hashes, sk_byHash, sk_leansOn, sk_leantBy, sk_changes, sk_lines, .int 0])), (h, .inr (0, [ps_tape, .ref rp, ps_sha, ps_stock, ps_intake, .ref vw, .ref tx, ps_maker, ps_recording, ps_tapeLength, ps_lastFault])), (rp, .inl (cR, 8, .inr (.inr (.inr (.inr rf)))))] := hD
    refine W.eq (g2 := F0 m 5 ls [.ref rr]) rfl ?_
    refine W.widen (k := 1) (n := 6) (Nat.le_of_ble_eq_true rfl) (Nat.le_of_ble_eq_true rfl) ?_
    refine lv_astore (lv' := [(4, .ref rr), (0, .ref h), (1, .int p0), (2, .int p1), (3, .int p2)]) hx hb d_PS_file_5 hl (by decide) rfl (fun ls hl => ?_)
    refine lv_aload_n hx hb d_PS_file_7 rfl (lv_at hl 1 rfl) ?_
    refine lv_aload hx hb d_PS_file_8 (lv_at hl 0 rfl) ?_
    refine lv_iload_n hx hb d_PS_file_10 rfl (lv_at hl 3 rfl) ?_
    have hPc := hP.sub (ws' := [(h, .inr (0, [ps_tape, .ref rp, ps_sha, ps_stock, ps_intake, .ref vw, .ref tx, ps_maker, ps_recording, ps_tapeLength, ps_lastFault])), (vw, .inr (11, [vw_files, .ref no, vw_namings, .int 0, .int 0, .ref sk, vw_changes, .null, .int 0, vw_over, .int 0, vw_heads, vw_nexts, vw_sharing])), (no, .inl (cI, 200, .inl f0)), (rr, .inr (7, [rr_members, rr_digest, rr_size, .int ver, rr_digestVersion])), (sk, .inr (9, [sk_bytes, sk_from, sk_firstDependency, sk_firstChange, sk_dependencies, sk_hashes, sk_byHash, sk_leansOn, sk_leantBy, sk_changes, sk_lines, .int 0]))]) [4, 0, 1, 2, 3] rfl
    have hDc := hD.sub (ws' := [(h, .inr (0, [ps_tape, .ref rp, ps_sha, ps_stock, ps_intake, .ref vw, .ref tx, ps_maker, ps_recording, ps_tapeLength, ps_lastFault])), (vw, .inr (11, [vw_files, .ref no, vw_namings, .int 0, .int 0, .ref sk, vw_changes, .null, .int 0, vw_over, .int 0, vw_heads, vw_nexts, vw_sharing])), (no, .inl (cI, 200, .inl f0)), (rr, .inr (7, [rr_members, rr_digest, rr_size, .int ver, rr_digestVersion])), (sk, .inr (9, [sk_bytes, sk_from, sk_firstDependency, sk_firstChange, sk_dependencies, sk_hashes, sk_byHash, sk_leansOn, sk_leantBy, sk_changes, sk_lines, .int 0]))]) [4, 0, 1, 2, 3] (by decide) rfl
    have hFc := va_free (wc := [(h, .inr (0, [ps_tape, .ref rp, ps_sha, ps_stock, ps_intake, .ref vw, .ref tx, ps_maker, ps_recording, ps_tapeLength, ps_lastFault])), (vw, .inr (11, [vw_files, .ref no, vw_namings, .int 0, .int 0, .ref sk, vw_changes, .null, .int 0, vw_over, .int 0, vw_heads, vw_nexts, vw_sharing])), (no, .inl (cI, 200, .inl f0)), (rr, .inr (7, [rr_members, rr_digest, rr_size, .int ver, rr_digestVersion])), (sk, .inr (9, [sk_bytes, sk_from, sk_firstDependency, sk_firstChange, sk_dependencies, sk_hashes, sk_byHash, sk_leansOn, sk_leantBy, sk_changes, sk_lines, .int 0]))]) hD hS hA [4, 0, 1, 2, 3] rfl
    refine xc_call (xc_runV (As := [.ref rr, .int p1]) (rest := []) (C := "PatchStore") ⟨hx, hb, hml, hown, hts⟩ (m_PS_fileAt0 l dC dI cI cB cL cZ cR hlt h vw no rr sk (ps_tape) (.ref rp) (ps_sha) (ps_stock) (ps_intake) (.ref tx) (ps_maker) (ps_recording) (ps_tapeLength) (ps_lastFault) (vw_files) (vw_namings) (vw_changes) (vw_over) (vw_heads) (vw_nexts) (vw_sharing) (rr_members) (rr_digest) (rr_size) (rr_digestVersion) (sk_bytes) (sk_from) (sk_firstDependency) (sk_firstChange) (sk_dependencies) (sk_hashes) (sk_byHash) (sk_leansOn) (sk_leantBy) (sk_changes) (sk_lines) ver f0 p1 H.size ) (xc_bOf 2 hts (xg_in gw_994) (xc_Is.code (hts _ gw_994)) rfl rfl (hts _ gw_1) (by decide +kernel) ⟨Nat.le_of_ble_eq_true rfl, Nat.le_of_ble_eq_true rfl⟩) (hts _ gw_991) (hts _ gw_993) (hts _ (xg_p 34 (q := (⟨"PatchStore", "fileAt", "(LPatchStore$Repository;I)I"⟩, 11)) (by decide +kernel))) ⟨xw_blindx, va_recv hK hPc (ci := 0) (q0 := 0) rfl rfl, fun U hU hW => ⟨rfl, by rw [hU], by rw [hU]; exact hPc, va_K.moved hW.alike hK, hDc.weaken (fun _ _ _ _ => trivial), xg_N.warm hW hN, by rw [hU]; exact ((hTh.kept (fun a h1 h2 => hS.2.1 a h1 h2)).narrow hFc).moved hW.alike⟩⟩ rfl rfl hl.1 rfl (lv_room (Nat.le_of_ble_eq_true rfl)) d_PS_file_11 ⟨Nat.le_of_ble_eq_true rfl, Nat.le_of_ble_eq_true rfl⟩) hS (fun q _ h => hFc q h) hFc (fun v9 u t H1 locs ht hvm hw hB hz1 hk1 hS => ?_) (fun x9 C9 u t H1 locs ht hvm hw hex hB hz1 hk1 hS => ?_)
    · skip
      exact False.elim hw
    · obtain rfl : C9 = "java/util/NoSuchElementException" := hw
      refine xc_TW.widen (k := 2) (n := 12) (Nat.le_of_ble_eq_true rfl) (Nat.le_of_ble_eq_true rfl) ?_
      exact xc_pass (u := ()) hlocks hno ht hvm hex (Or.inr ⟨⟨n0, hn0, en0⟩, rfl⟩) (fun _ _ _ => trivial) hS
  · obtain ⟨hbad, rfl⟩ := hw
    refine xc_TW.widen (k := 2) (n := 12) (Nat.le_of_ble_eq_true rfl) (Nat.le_of_ble_eq_true rfl) ?_
    exact xc_pass (u := ()) hlocks hno ht hvm hex (Or.inl ⟨hbad, rfl⟩) (fun _ _ _ => trivial) hS
set_option maxHeartbeats 4000000 in
set_option maxRecDepth 100000 in
/-- name on a fresh object -/
theorem m_PS_name0 (l : Launch) (dC : Nat → ClassId) (dI : Nat → Nat → Nat) (cI cB cL cZ cR : ClassId) (hlt : xl_T l) (h rp vw tx no rr sk : Nat) (ps_tape ps_sha ps_stock ps_intake ps_maker ps_recording ps_tapeLength ps_lastFault vw_files vw_namings vw_changes vw_over vw_heads vw_nexts vw_sharing rr_members rr_digest rr_size rr_digestVersion sk_bytes sk_from sk_firstDependency sk_firstChange sk_dependencies sk_hashes sk_byHash sk_leansOn sk_leantBy sk_changes sk_lines : Value) (ver : Int32) (f0 : Nat → Int32) (g : Nat → Nat) (rf : Nat → Option Nat) (p0 p1 p2 p3 : Int32) (sz : Nat) (hrf : ∀ k, k < 8 → rf k = some (g k)) (hrr_rr : ∀ n, n < 8 → p0 = nI n → g n = rr) : xc_Met l y_PS_name ws_PS_name ({ frames := 14, cells := 2, slots := 12, locals := 400 }) (xw_Px dC dI [(cI, .int), (cB, .byte), (cL, .long), (cZ, .boolean), (cR, .object "PatchStore$Repository")] [.ref h, .int p0, .int p1, .int p2, .int p3] [(h, .inr (0, [ps_tape, .ref rp, ps_sha, ps_stock, ps_intake, .ref vw, .ref tx, ps_maker, ps_recording, ps_tapeLength, ps_lastFault])), (rp, .inl (cR, 8, .inr (.inr (.inr (.inr rf))))), (vw, .inr (11, [vw_files, .ref no, vw_namings, .int 0, .int 0, .ref sk, vw_changes, .null, .int 0, vw_over, .int 0, vw_heads, vw_nexts, vw_sharing])), (no, .inl (cI, 200, .inl f0)), (rr, .inr (7, [rr_members, rr_digest, rr_size, .int ver, rr_digestVersion])), (sk, .inr (9, [sk_bytes, sk_from, sk_firstDependency, sk_firstChange, sk_dependencies, sk_hashes, sk_byHash, sk_leansOn, sk_leantBy, sk_changes, sk_lines, .int 0]))] sz) (xc_Q (S := Unit) (fun _ (_ : Unit) => False) (fun C (_ : Unit) => ((¬ ∃ n : Nat, n < 8 ∧ p0 = nI n) ∧ C = "java/util/NoSuchElementException") ∨ ((∃ n : Nat, n < 8 ∧ p0 = nI n) ∧ C = "java/util/NoSuchElementException")) (fun _ _ => True) (va_A [(h, .inr (0, [ps_tape, .ref rp, ps_sha, ps_stock, ps_intake, .ref vw, .ref tx, ps_maker, ps_recording, ps_tapeLength, ps_lastFault])), (rp, .inl (cR, 8, .inr (.inr (.inr (.inr rf))))), (vw, .inr (11, [vw_files, .ref no, vw_namings, .int 0, .int 0, .ref sk, vw_changes, .null, .int 0, vw_over, .int 0, vw_heads, vw_nexts, vw_sharing])), (no, .inl (cI, 200, .inl f0)), (rr, .inr (7, [rr_members, rr_digest, rr_size, .int ver, rr_digestVersion])), (sk, .inr (9, [sk_bytes, sk_from, sk_firstDependency, sk_firstChange, sk_dependencies, sk_hashes, sk_byHash, sk_leansOn, sk_leantBy, sk_changes, sk_lines, .int 0]))] sz)) 2 12 (va_A [(h, .inr (0, [ps_tape, .ref rp, ps_sha, ps_stock, ps_intake, .ref vw, .ref tx, ps_maker, ps_recording, ps_tapeLength, ps_lastFault])), (rp, .inl (cR, 8, .inr (.inr (.inr (.inr rf))))), (vw, .inr (11, [vw_files, .ref no, vw_namings, .int 0, .int 0, .ref sk, vw_changes, .null, .int 0, vw_over, .int 0, vw_heads, vw_nexts, vw_sharing])), (no, .inl (cI, 200, .inl f0)), (rr, .inr (7, [rr_members, rr_digest, rr_size, .int ver, rr_digestVersion])), (sk, .inr (9, [sk_bytes, sk_from, sk_firstDependency, sk_firstChange, sk_dependencies, sk_hashes, sk_byHash, sk_leansOn, sk_leantBy, sk_changes, sk_lines, .int 0]))] sz) := by
  refine xc_ofW (cc := prog_1_method_17_code) (maxL := 8) (ret := (Option.some Jvm.ClassFile.FieldType.int)) (by decide) rfl ?_
  intro p e s m args below meth c s₁ B hml hno hv
  obtain ⟨rfl, hsz, hP, hK, hD0, hN, hTh⟩ := hv
  have htr : e.platform.stackTraces = false := hlt e B.admits
  have hx := B.exec
  have hb := B.bytes
  have hr := B.returns
  have hts0 := atoms_spec (ws := ws_PS_name) B.pre
  have hts : ∀ w ∈ xg_1, w.before _ s = true := fun w h => hts0 w (List.mem_cons_of_mem _ h)
  have hown : s.vm.findClass "PatchStore" = some m.cls := findClass_of_methodNamed B.named
  have hlocks := B.notSynchronized
  subst hsz
  have hD := hD0.self (sz := s.heap.size)
  generalize hAe : va_A [(h, .inr (0, [ps_tape, .ref rp, ps_sha, ps_stock, ps_intake, .ref vw, .ref tx, ps_maker, ps_recording, ps_tapeLength, ps_lastFault])), (rp, .inl (cR, 8, .inr (.inr (.inr (.inr rf))))), (vw, .inr (11, [vw_files, .ref no, vw_namings, .int 0, .int 0, .ref sk, vw_changes, .null, .int 0, vw_over, .int 0, vw_heads, vw_nexts, vw_sharing])), (no, .inl (cI, 200, .inl f0)), (rr, .inr (7, [rr_members, rr_digest, rr_size, .int ver, rr_digestVersion])), (sk, .inr (9, [sk_bytes, sk_from, sk_firstDependency, sk_firstChange, sk_dependencies, sk_hashes, sk_byHash, sk_leansOn, sk_leantBy, sk_changes, sk_lines, .int 0]))] s.heap.size = A at hD hTh ⊢
  have hA : ∀ q : Nat, s.heap.size ≤ q → A q := fun q h => by rw [← hAe]; exact Or.inr h
  have hS : va_S A s.heap s.heap [] := va_S.rf
  have hl := lv_entry ([.ref h, .int p0, .int p1, .int p2, .int p3]) (n := 8) (Nat.le_of_ble_eq_true rfl)
  rw [lg_entry_eq]
  generalize (lg_sl ([.ref h, .int p0, .int p1, .int p2, .int p3]) ++ List.replicate (8 - (lg_sl ([.ref h, .int p0, .int p1, .int p2, .int p3])).length) Slot.unset).toArray = ls at hl ⊢
  have hl : lv_has ls 8 [(0, .ref h), (1, .int p0), (2, .int p1), (3, .int p2), (4, .int p3)] := hl
  refine lv_aload_n hx hb d_PS_name_0 rfl (lv_at hl 0 rfl) ?_
  refine va_get (D := (dC, dI)) (ci := 0) (v := .ref vw) (C := R_PS) (T := F_PS) (N := 11) hx hb hts i_PS hown hK hP 0 rfl rfl 5 (by decide) (hts _ gw_553) (fun _ h9 => h9) rfl d_PS_name_1 ?_
  refine lv_aload_n hx hb d_PS_name_4 rfl (lv_at hl 0 rfl) ?_
  refine lv_aload_n hx hb d_PS_name_5 rfl (lv_at hl 0 rfl) ?_
  refine lv_iload_n hx hb d_PS_name_6 rfl (lv_at hl 1 rfl) ?_
  have hPc := hP.sub (ws' := [(h, .inr (0, [ps_tape, .ref rp, ps_sha, ps_stock, ps_intake, .ref vw, .ref tx, ps_maker, ps_recording, ps_tapeLength, ps_lastFault])), (rp, .inl (cR, 8, .inr (.inr (.inr (.inr rf)))))]) [0, 1] rfl
  have hDc := hD.sub (ws' := [(h, .inr (0, [ps_tape, .ref rp, ps_sha, ps_stock, ps_intake, .ref vw, .ref tx, ps_maker, ps_recording, ps_tapeLength, ps_lastFault])), (rp, .inl (cR, 8, .inr (.inr (.inr (.inr rf)))))]) [0, 1] (by decide) rfl
  have hFc := va_free (wc := [(h, .inr (0, [ps_tape, .ref rp, ps_sha, ps_stock, ps_intake, .ref vw, .ref tx, ps_maker, ps_recording, ps_tapeLength, ps_lastFault])), (rp, .inl (cR, 8, .inr (.inr (.inr (.inr rf)))))]) hD hS hA [0, 1] rfl
  refine xc_call (xc_runV (As := [.int p0]) (rest := [.ref h, .ref vw]) (C := "PatchStore") ⟨hx, hb, hml, hown, hts⟩ (m_PS_repositoryAt l dC dI cI cB cL cZ cR hlt h rp (ps_tape) (ps_sha) (ps_stock) (ps_intake) (.ref vw) (.ref tx) (ps_maker) (ps_recording) (ps_tapeLength) (ps_lastFault) g rf p0 s.heap.size hrf) (xc_bOf 1 hts (xg_in gw_703) (xc_Is.code (hts _ gw_703)) rfl rfl (hts _ gw_1) (by decide +kernel) ⟨Nat.le_of_ble_eq_true rfl, Nat.le_of_ble_eq_true rfl⟩) (hts _ gw_700) (hts _ gw_702) (hts _ (xg_p 2 (q := (⟨"PatchStore", "repositoryAt", "(I)LPatchStore$Repository;"⟩, 11)) (by decide +kernel))) ⟨xw_blindx, va_recv hK hPc (ci := 0) (q0 := 0) rfl rfl, fun U hU hW => ⟨rfl, by rw [hU], by rw [hU]; exact hPc, va_K.moved hW.alike hK, hDc.weaken (fun _ _ _ _ => trivial), xg_N.warm hW hN, by rw [hU]; exact ((hTh.kept (fun a h1 h2 => hS.2.1 a h1 h2)).narrow hFc).moved hW.alike⟩⟩ rfl rfl hl.1 rfl (lv_room (Nat.le_of_ble_eq_true rfl)) d_PS_name_7 ⟨Nat.le_of_ble_eq_true rfl, Nat.le_of_ble_eq_true rfl⟩) hS (fun q _ h => hFc q h) hFc (fun v9 u t H1 locs ht hvm hw hB hz1 hk1 hS => ?_) (fun x9 C9 u t H1 locs ht hvm hw hex hB hz1 hk1 hS => ?_)
  · obtain ⟨n0, hn0, en0, rfl⟩ := hw
    rw [hrr_rr n0 hn0 en0]
    obtain ⟨hP1, hK1, hD1⟩ := hB
    rw [ht] at hP1
    obtain ⟨hP, hD⟩ := va_join (wr := [(vw, .inr (11, [vw_files, .ref no, vw_namings, .int 0, .int 0, .ref sk, vw_changes, .null, .int 0, vw_over, .int 0, vw_heads, vw_nexts, vw_sharing])), (no, .inl (cI, 200, .inl f0)), (rr, .inr (7, [rr_members, rr_digest, rr_size, .int ver, rr_digestVersion])), (sk, .inr (9, [sk_bytes, sk_from, sk_firstDependency, sk_firstChange, sk_dependencies, sk_hashes, sk_byHash, sk_leansOn, sk_leantBy, sk_changes, sk_lines, .int 0]))]) (w1 := [(h, .inr (0, [ps_tape, .ref rp, ps_sha, ps_stock, ps_intake, .ref vw, .ref tx, ps_maker, ps_recording, ps_tapeLength, ps_lastFault])), (rp, .inl (cR, 8, .inr (.inr (.inr (.inr rf)))))]) hP hD [0, 1] [2, 3, 4, 5] rfl rfl (by decide) (by decide) hk1 hFc hP1 hD1
    generalize H1 = H at hP hS ht ⊢
    have hP : va_P (dC, dI) classes [(vw, .inr (11, [vw_files, .ref no, vw_namings, .int 0, .int 0, .ref sk, vw_changes, .null, .int 0, vw_over, .int 0, vw_heads, vw_nexts, vw_sharing])), (no, .inl (cI, 200, .inl f0)), (rr, .inr (7, [rr_members, rr_digest, rr_size, .int ver, rr_digestVersion])), (sk, .inr (9, [sk_bytes, sk_from, sk_firstDependency, sk_firstChange, sk_dependencies, sk_hashes, sk_byHash, sk_leansOn, sk_leantBy, sk_changes, sk_lines, .int 0])), (h, .inr (0, [ps_tape, .ref rp, ps_sha, ps_stock, ps_intake, .ref vw, .ref tx, ps_maker, ps_recording, ps_tapeLength, ps_lastFault])), (rp, .inl (cR, 8, .inr (.inr (.inr (.inr rf)))))] H := hP
    have hD : va_D A [(vw, .inr (11, [vw_files, .ref no, vw_namings, .int 0, .int 0, .ref sk, vw_changes, .null, .int 0, vw_over, .int 0, vw_heads, vw_nexts, vw_sharing])), (no, .inl (cI, 200, .inl f0)), (rr, .inr (7, [rr_members, rr_digest, rr_size, .int ver, rr_digestVersion])), (sk, .inr (9, [sk_bytes, sk_from, sk_firstDependency, sk_firstChange, sk_dependencies, sk_hashes, sk_byHash, sk_leansOn, sk_leantBy, sk_changes, sk_lines, .int 0])), (h, .inr (0, [ps_tape, .ref rp, ps_sha, ps_stock, ps_intake, .ref vw, .ref tx, ps_maker, ps_recording, ps_tapeLength, ps_lastFault])), (rp, .inl (cR, 8, .inr (.inr (.inr (.inr rf)))))] := hD
    refine W.eq (g2 := F0 m 10 ls [.ref rr, .ref h, .ref vw]) rfl ?_
    refine W.widen (k := 1) (n := 6) (Nat.le_of_ble_eq_true rfl) (Nat.le_of_ble_eq_true rfl) ?_
    refine lv_iload_n hx hb d_PS_name_10 rfl (lv_at hl 2 rfl) ?_
    have hPc := hP.sub (ws' := [(h, .inr (0, [ps_tape, .ref rp, ps_sha, ps_stock, ps_intake, .ref vw, .ref tx, ps_maker, ps_recording, ps_tapeLength, ps_lastFault])), (vw, .inr (11, [vw_files, .ref no, vw_namings, .int 0, .int 0, .ref sk, vw_changes, .null, .int 0, vw_over, .int 0, vw_heads, vw_nexts, vw_sharing])), (no, .inl (cI, 200, .inl f0)), (rr, .inr (7, [rr_members, rr_digest, rr_size, .int ver, rr_digestVersion])), (sk, .inr (9, [sk_bytes, sk_from, sk_firstDependency, sk_firstChange, sk_dependencies, sk_hashes, sk_byHash, sk_leansOn, sk_leantBy, sk_changes, sk_lines, .int 0]))]) [4, 0, 1, 2, 3] rfl
    have hDc := hD.sub (ws' := [(h, .inr (0, [ps_tape, .ref rp, ps_sha, ps_stock, ps_intake, .ref vw, .ref tx, ps_maker, ps_recording, ps_tapeLength, ps_lastFault])), (vw, .inr (11, [vw_files, .ref no, vw_namings, .int 0, .int 0, .ref sk, vw_changes, .null, .int 0, vw_over, .int 0, vw_heads, vw_nexts, vw_sharing])), (no, .inl (cI, 200, .inl f0)), (rr, .inr (7, [rr_members, rr_digest, rr_size, .int ver, rr_digestVersion])), (sk, .inr (9, [sk_bytes, sk_from, sk_firstDependency, sk_firstChange, sk_dependencies, sk_hashes, sk_byHash, sk_leansOn, sk_leantBy, sk_changes, sk_lines, .int 0]))]) [4, 0, 1, 2, 3] (by decide) rfl
    have hFc := va_free (wc := [(h, .inr (0, [ps_tape, .ref rp, ps_sha, ps_stock, ps_intake, .ref vw, .ref tx, ps_maker, ps_recording, ps_tapeLength, ps_lastFault])), (vw, .inr (11, [vw_files, .ref no, vw_namings, .int 0, .int 0, .ref sk, vw_changes, .null, .int 0, vw_over, .int 0, vw_heads, vw_nexts, vw_sharing])), (no, .inl (cI, 200, .inl f0)), (rr, .inr (7, [rr_members, rr_digest, rr_size, .int ver, rr_digestVersion])), (sk, .inr (9, [sk_bytes, sk_from, sk_firstDependency, sk_firstChange, sk_dependencies, sk_hashes, sk_byHash, sk_leansOn, sk_leantBy, sk_changes, sk_lines, .int 0]))]) hD hS hA [4, 0, 1, 2, 3] rfl
    refine xc_call (xc_runV (As := [.ref rr, .int p1]) (rest := [.ref vw]) (C := "PatchStore") ⟨hx, hb, hml, hown, hts⟩ (m_PS_fileAt0 l dC dI cI cB cL cZ cR hlt h vw no rr sk (ps_tape) (.ref rp) (ps_sha) (ps_stock) (ps_intake) (.ref tx) (ps_maker) (ps_recording) (ps_tapeLength) (ps_lastFault) (vw_files) (vw_namings) (vw_changes) (vw_over) (vw_heads) (vw_nexts) (vw_sharing) (rr_members) (rr_digest) (rr_size) (rr_digestVersion) (sk_bytes) (sk_from) (sk_firstDependency) (sk_firstChange) (sk_dependencies) (sk_hashes) (sk_byHash) (sk_leansOn) (sk_leantBy) (sk_changes) (sk_lines) ver f0 p1 H.size ) (xc_bOf 2 hts (xg_in gw_994) (xc_Is.code (hts _ gw_994)) rfl rfl (hts _ gw_1) (by decide +kernel) ⟨Nat.le_of_ble_eq_true rfl, Nat.le_of_ble_eq_true rfl⟩) (hts _ gw_991) (hts _ gw_993) (hts _ (xg_p 34 (q := (⟨"PatchStore", "fileAt", "(LPatchStore$Repository;I)I"⟩, 11)) (by decide +kernel))) ⟨xw_blindx, va_recv hK hPc (ci := 0) (q0 := 0) rfl rfl, fun U hU hW => ⟨rfl, by rw [hU], by rw [hU]; exact hPc, va_K.moved hW.alike hK, hDc.weaken (fun _ _ _ _ => trivial), xg_N.warm hW hN, by rw [hU]; exact ((hTh.kept (fun a h1 h2 => hS.2.1 a h1 h2)).narrow hFc).moved hW.alike⟩⟩ rfl rfl hl.1 rfl (lv_room (Nat.le_of_ble_eq_true rfl)) d_PS_name_11 ⟨Nat.le_of_ble_eq_true rfl, Nat.le_of_ble_eq_true rfl⟩) hS (fun q _ h => hFc q h) hFc (fun v9 u t H1 locs ht hvm hw hB hz1 hk1 hS => ?_) (fun x9 C9 u t H1 locs ht hvm hw hex hB hz1 hk1 hS => ?_)
    · skip
      exact False.elim hw
    · obtain rfl : C9 = "java/util/NoSuchElementException" := hw
      refine xc_TW.widen (k := 2) (n := 12) (Nat.le_of_ble_eq_true rfl) (Nat.le_of_ble_eq_true rfl) ?_
      exact xc_pass (u := ()) hlocks hno ht hvm hex (Or.inr ⟨⟨n0, hn0, en0⟩, rfl⟩) (fun _ _ _ => trivial) hS
  · obtain ⟨hbad, rfl⟩ := hw
    refine xc_TW.widen (k := 2) (n := 12) (Nat.le_of_ble_eq_true rfl) (Nat.le_of_ble_eq_true rfl) ?_
    exact xc_pass (u := ()) hlocks hno ht hvm hex (Or.inl ⟨hbad, rfl⟩) (fun _ _ _ => trivial) hS
set_option maxHeartbeats 4000000 in
set_option maxRecDepth 100000 in
/-- line on a fresh object -/
theorem m_PS_line0 (l : Launch) (dC : Nat → ClassId) (dI : Nat → Nat → Nat) (cI cB cL cZ cR : ClassId) (hlt : xl_T l) (h rp vw tx no rr sk : Nat) (ps_tape ps_sha ps_stock ps_intake ps_maker ps_recording ps_tapeLength ps_lastFault vw_files vw_namings vw_changes vw_over vw_heads vw_nexts vw_sharing rr_members rr_digest rr_size rr_digestVersion sk_bytes sk_from sk_firstDependency sk_firstChange sk_dependencies sk_hashes sk_byHash sk_leansOn sk_leantBy sk_changes sk_lines : Value) (ver : Int32) (f0 : Nat → Int32) (g : Nat → Nat) (rf : Nat → Option Nat) (p0 p1 p2 p3 : Int32) (sz : Nat) (hrf : ∀ k, k < 8 → rf k = some (g k)) (hrr_rr : ∀ n, n < 8 → p0 = nI n → g n = rr) : xc_Met l y_PS_line ws_PS_line ({ frames := 14, cells := 2, slots := 12, locals := 400 }) (xw_Px dC dI [(cI, .int), (cB, .byte), (cL, .long), (cZ, .boolean), (cR, .object "PatchStore$Repository")] [.ref h, .int p0, .int p1, .int p2, .int p3] [(h, .inr (0, [ps_tape, .ref rp, ps_sha, ps_stock, ps_intake, .ref vw, .ref tx, ps_maker, ps_recording, ps_tapeLength, ps_lastFault])), (rp, .inl (cR, 8, .inr (.inr (.inr (.inr rf))))), (vw, .inr (11, [vw_files, .ref no, vw_namings, .int 0, .int 0, .ref sk, vw_changes, .null, .int 0, vw_over, .int 0, vw_heads, vw_nexts, vw_sharing])), (no, .inl (cI, 200, .inl f0)), (rr, .inr (7, [rr_members, rr_digest, rr_size, .int ver, rr_digestVersion])), (sk, .inr (9, [sk_bytes, sk_from, sk_firstDependency, sk_firstChange, sk_dependencies, sk_hashes, sk_byHash, sk_leansOn, sk_leantBy, sk_changes, sk_lines, .int 0]))] sz) (xc_Q (S := Unit) (fun _ (_ : Unit) => False) (fun C (_ : Unit) => ((¬ ∃ n : Nat, n < 8 ∧ p0 = nI n) ∧ C = "java/util/NoSuchElementException") ∨ ((∃ n : Nat, n < 8 ∧ p0 = nI n) ∧ C = "java/util/NoSuchElementException")) (fun _ _ => True) (va_A [(h, .inr (0, [ps_tape, .ref rp, ps_sha, ps_stock, ps_intake, .ref vw, .ref tx, ps_maker, ps_recording, ps_tapeLength, ps_lastFault])), (rp, .inl (cR, 8, .inr (.inr (.inr (.inr rf))))), (vw, .inr (11, [vw_files, .ref no, vw_namings, .int 0, .int 0, .ref sk, vw_changes, .null, .int 0, vw_over, .int 0, vw_heads, vw_nexts, vw_sharing])), (no, .inl (cI, 200, .inl f0)), (rr, .inr (7, [rr_members, rr_digest, rr_size, .int ver, rr_digestVersion])), (sk, .inr (9, [sk_bytes, sk_from, sk_firstDependency, sk_firstChange, sk_dependencies, sk_hashes, sk_byHash, sk_leansOn, sk_leantBy, sk_changes, sk_lines, .int 0]))] sz)) 2 12 (va_A [(h, .inr (0, [ps_tape, .ref rp, ps_sha, ps_stock, ps_intake, .ref vw, .ref tx, ps_maker, ps_recording, ps_tapeLength, ps_lastFault])), (rp, .inl (cR, 8, .inr (.inr (.inr (.inr rf))))), (vw, .inr (11, [vw_files, .ref no, vw_namings, .int 0, .int 0, .ref sk, vw_changes, .null, .int 0, vw_over, .int 0, vw_heads, vw_nexts, vw_sharing])), (no, .inl (cI, 200, .inl f0)), (rr, .inr (7, [rr_members, rr_digest, rr_size, .int ver, rr_digestVersion])), (sk, .inr (9, [sk_bytes, sk_from, sk_firstDependency, sk_firstChange, sk_dependencies, sk_hashes, sk_byHash, sk_leansOn, sk_leantBy, sk_changes, sk_lines, .int 0]))] sz) := by
  refine xc_ofW (cc := prog_1_method_18_code) (maxL := 7) (ret := (Option.some Jvm.ClassFile.FieldType.int)) (by decide) rfl ?_
  intro p e s m args below meth c s₁ B hml hno hv
  obtain ⟨rfl, hsz, hP, hK, hD0, hN, hTh⟩ := hv
  have htr : e.platform.stackTraces = false := hlt e B.admits
  have hx := B.exec
  have hb := B.bytes
  have hr := B.returns
  have hts0 := atoms_spec (ws := ws_PS_line) B.pre
  have hts : ∀ w ∈ xg_1, w.before _ s = true := fun w h => hts0 w (List.mem_cons_of_mem _ h)
  have hown : s.vm.findClass "PatchStore" = some m.cls := findClass_of_methodNamed B.named
  have hlocks := B.notSynchronized
  subst hsz
  have hD := hD0.self (sz := s.heap.size)
  generalize hAe : va_A [(h, .inr (0, [ps_tape, .ref rp, ps_sha, ps_stock, ps_intake, .ref vw, .ref tx, ps_maker, ps_recording, ps_tapeLength, ps_lastFault])), (rp, .inl (cR, 8, .inr (.inr (.inr (.inr rf))))), (vw, .inr (11, [vw_files, .ref no, vw_namings, .int 0, .int 0, .ref sk, vw_changes, .null, .int 0, vw_over, .int 0, vw_heads, vw_nexts, vw_sharing])), (no, .inl (cI, 200, .inl f0)), (rr, .inr (7, [rr_members, rr_digest, rr_size, .int ver, rr_digestVersion])), (sk, .inr (9, [sk_bytes, sk_from, sk_firstDependency, sk_firstChange, sk_dependencies, sk_hashes, sk_byHash, sk_leansOn, sk_leantBy, sk_changes, sk_lines, .int 0]))] s.heap.size = A at hD hTh ⊢
  have hA : ∀ q : Nat, s.heap.size ≤ q → A q := fun q h => by rw [← hAe]; exact Or.inr h
  have hS : va_S A s.heap s.heap [] := va_S.rf
  have hl := lv_entry ([.ref h, .int p0, .int p1, .int p2, .int p3]) (n := 7) (Nat.le_of_ble_eq_true rfl)
  rw [lg_entry_eq]
  generalize (lg_sl ([.ref h, .int p0, .int p1, .int p2, .int p3]) ++ List.replicate (7 - (lg_sl ([.ref h, .int p0, .int p1, .int p2, .int p3])).length) Slot.unset).toArray = ls at hl ⊢
  have hl : lv_has ls 7 [(0, .ref h), (1, .int p0), (2, .int p1), (3, .int p2), (4, .int p3)] := hl
  refine lv_aload_n hx hb d_PS_line_0 rfl (lv_at hl 0 rfl) ?_
  refine lv_iload_n hx hb d_PS_line_1 rfl (lv_at hl 1 rfl) ?_
  have hPc := hP.sub (ws' := [(h, .inr (0, [ps_tape, .ref rp, ps_sha, ps_stock, ps_intake, .ref vw, .ref tx, ps_maker, ps_recording, ps_tapeLength, ps_lastFault])), (rp, .inl (cR, 8, .inr (.inr (.inr (.inr rf)))))]) [0, 1] rfl
  have hDc := hD.sub (ws' := [(h, .inr (0, [ps_tape, .ref rp, ps_sha, ps_stock, ps_intake, .ref vw, .ref tx, ps_maker, ps_recording, ps_tapeLength, ps_lastFault])), (rp, .inl (cR, 8, .inr (.inr (.inr (.inr rf)))))]) [0, 1] (by decide) rfl
  have hFc := va_free (wc := [(h, .inr (0, [ps_tape, .ref rp, ps_sha, ps_stock, ps_intake, .ref vw, .ref tx, ps_maker, ps_recording, ps_tapeLength, ps_lastFault])), (rp, .inl (cR, 8, .inr (.inr (.inr (.inr rf)))))]) hD hS hA [0, 1] rfl
  refine xc_call (xc_runV (As := [.int p0]) (rest := []) (C := "PatchStore") ⟨hx, hb, hml, hown, hts⟩ (m_PS_repositoryAt l dC dI cI cB cL cZ cR hlt h rp (ps_tape) (ps_sha) (ps_stock) (ps_intake) (.ref vw) (.ref tx) (ps_maker) (ps_recording) (ps_tapeLength) (ps_lastFault) g rf p0 s.heap.size hrf) (xc_bOf 1 hts (xg_in gw_703) (xc_Is.code (hts _ gw_703)) rfl rfl (hts _ gw_1) (by decide +kernel) ⟨Nat.le_of_ble_eq_true rfl, Nat.le_of_ble_eq_true rfl⟩) (hts _ gw_700) (hts _ gw_702) (hts _ (xg_p 2 (q := (⟨"PatchStore", "repositoryAt", "(I)LPatchStore$Repository;"⟩, 11)) (by decide +kernel))) ⟨xw_blindx, va_recv hK hPc (ci := 0) (q0 := 0) rfl rfl, fun U hU hW => ⟨rfl, by rw [hU], by rw [hU]; exact hPc, va_K.moved hW.alike hK, hDc.weaken (fun _ _ _ _ => trivial), xg_N.warm hW hN, by rw [hU]; exact ((hTh.kept (fun a h1 h2 => hS.2.1 a h1 h2)).narrow hFc).moved hW.alike⟩⟩ rfl rfl hl.1 rfl (lv_room (Nat.le_of_ble_eq_true rfl)) d_PS_line_2 ⟨Nat.le_of_ble_eq_true rfl, Nat.le_of_ble_eq_true rfl⟩) hS (fun q _ h => hFc q h) hFc (fun v9 u t H1 locs ht hvm hw hB hz1 hk1 hS => ?_) (fun x9 C9 u t H1 locs ht hvm hw hex hB hz1 hk1 hS => ?_)
  · obtain ⟨n0, hn0, en0, rfl⟩ := hw
    rw [hrr_rr n0 hn0 en0]
    obtain ⟨hP1, hK1, hD1⟩ := hB
    rw [ht] at hP1
    obtain ⟨hP, hD⟩ := va_join (wr := [(vw, .inr (11, [vw_files, .ref no, vw_namings, .int 0, .int 0, .ref sk, vw_changes, .null, .int 0, vw_over, .int 0, vw_heads, vw_nexts, vw_sharing])), (no, .inl (cI, 200, .inl f0)), (rr, .inr (7, [rr_members, rr_digest, rr_size, .int ver, rr_digestVersion])), (sk, .inr (9, [sk_bytes, sk_from, sk_firstDependency, sk_firstChange, sk_dependencies, sk_hashes, sk_byHash, sk_leansOn, sk_leantBy, sk_changes, sk_lines, .int 0]))]) (w1 := [(h, .inr (0, [ps_tape, .ref rp, ps_sha, ps_stock, ps_intake, .ref vw, .ref tx, ps_maker, ps_recording, ps_tapeLength, ps_lastFault])), (rp, .inl (cR, 8, .inr (.inr (.inr (.inr rf)))))]) hP hD [0, 1] [2, 3, 4, 5] rfl rfl (by decide) (by decide) hk1 hFc hP1 hD1
    generalize H1 = H at hP hS ht ⊢
    have hP : va_P (dC, dI) classes [(vw, .inr (11, [vw_files, .ref no, vw_namings, .int 0, .int 0, .ref sk, vw_changes, .null, .int 0, vw_over, .int 0, vw_heads, vw_nexts, vw_sharing])), (no, .inl (cI, 200, .inl f0)), (rr, .inr (7, [rr_members, rr_digest, rr_size, .int ver, rr_digestVersion])), (sk, .inr (9, [sk_bytes, sk_from, sk_firstDependency, sk_firstChange, sk_dependencies, sk_hashes, sk_byHash, sk_leansOn, sk_leantBy, sk_changes, sk_lines, .int 0])), (h, .inr (0, [ps_tape, .ref rp, ps_sha, ps_stock, ps_intake, .ref vw, .ref tx, ps_maker, ps_recording, ps_tapeLength, ps_lastFault])), (rp, .inl (cR, 8, .inr (.inr (.inr (.inr rf)))))] H := hP
    have hD : va_D A [(vw, .inr (11, [vw_files, .ref no, vw_namings, .int 0, .int 0, .ref sk, vw_changes, .null, .int 0, vw_over, .int 0, vw_heads, vw_nexts, vw_sharing])), (no, .inl (cI, 200, .inl f0)), (rr, .inr (7, [rr_members, rr_digest, rr_size, .int ver, rr_digestVersion])), (sk, .inr (9, [sk_bytes, sk_from, sk_firstDependency, sk_firstChange, sk_dependencies, sk_hashes, sk_byHash, sk_leansOn, sk_leantBy, sk_changes, sk_lines, .int 0])), (h, .inr (0, [ps_tape, .ref rp, ps_sha, ps_stock, ps_intake, .ref vw, .ref tx, ps_maker, ps_recording, ps_tapeLength, ps_lastFault])), (rp, .inl (cR, 8, .inr (.inr (.inr (.inr rf)))))] := hD
    refine W.eq (g2 := F0 m 5 ls [.ref rr]) rfl ?_
    refine W.widen (k := 1) (n := 6) (Nat.le_of_ble_eq_true rfl) (Nat.le_of_ble_eq_true rfl) ?_
    refine lv_astore (lv' := [(5, .ref rr), (0, .ref h), (1, .int p0), (2, .int p1), (3, .int p2), (4, .int p3)]) hx hb d_PS_line_5 hl (by decide) rfl (fun ls hl => ?_)
    refine lv_aload_n hx hb d_PS_line_7 rfl (lv_at hl 1 rfl) ?_
    refine va_get (D := (dC, dI)) (ci := 0) (v := .ref tx) (C := R_PS) (T := F_PS) (N := 11) hx hb hts i_PS hown hK hP 4 rfl rfl 6 (by decide) (hts _ gw_554) (fun _ h9 => h9) rfl d_PS_line_8 ?_
    refine lv_aload hx hb d_PS_line_11 (lv_at hl 0 rfl) ?_
    refine lv_aload_n hx hb d_PS_line_13 rfl (lv_at hl 1 rfl) ?_
    refine lv_aload hx hb d_PS_line_14 (lv_at hl 0 rfl) ?_
    refine lv_iload_n hx hb d_PS_line_16 rfl (lv_at hl 3 rfl) ?_
    have hPc := hP.sub (ws' := [(h, .inr (0, [ps_tape, .ref rp, ps_sha, ps_stock, ps_intake, .ref vw, .ref tx, ps_maker, ps_recording, ps_tapeLength, ps_lastFault])), (vw, .inr (11, [vw_files, .ref no, vw_namings, .int 0, .int 0, .ref sk, vw_changes, .null, .int 0, vw_over, .int 0, vw_heads, vw_nexts, vw_sharing])), (no, .inl (cI, 200, .inl f0)), (rr, .inr (7, [rr_members, rr_digest, rr_size, .int ver, rr_digestVersion])), (sk, .inr (9, [sk_bytes, sk_from, sk_firstDependency, sk_firstChange, sk_dependencies, sk_hashes, sk_byHash, sk_leansOn, sk_leantBy, sk_changes, sk_lines, .int 0]))]) [4, 0, 1, 2, 3] rfl
    have hDc := hD.sub (ws' := [(h, .inr (0, [ps_tape, .ref rp, ps_sha, ps_stock, ps_intake, .ref vw, .ref tx, ps_maker, ps_recording, ps_tapeLength, ps_lastFault])), (vw, .inr (11, [vw_files, .ref no, vw_namings, .int 0, .int 0, .ref sk, vw_changes, .null, .int 0, vw_over, .int 0, vw_heads, vw_nexts, vw_sharing])), (no, .inl (cI, 200, .inl f0)), (rr, .inr (7, [rr_members, rr_digest, rr_size, .int ver, rr_digestVersion])), (sk, .inr (9, [sk_bytes, sk_from, sk_firstDependency, sk_firstChange, sk_dependencies, sk_hashes, sk_byHash, sk_leansOn, sk_leantBy, sk_changes, sk_lines, .int 0]))]) [4, 0, 1, 2, 3] (by decide) rfl
    have hFc := va_free (wc := [(h, .inr (0, [ps_tape, .ref rp, ps_sha, ps_stock, ps_intake, .ref vw, .ref tx, ps_maker, ps_recording, ps_tapeLength, ps_lastFault])), (vw, .inr (11, [vw_files, .ref no, vw_namings, .int 0, .int 0, .ref sk, vw_changes, .null, .int 0, vw_over, .int 0, vw_heads, vw_nexts, vw_sharing])), (no, .inl (cI, 200, .inl f0)), (rr, .inr (7, [rr_members, rr_digest, rr_size, .int ver, rr_digestVersion])), (sk, .inr (9, [sk_bytes, sk_from, sk_firstDependency, sk_firstChange, sk_dependencies, sk_hashes, sk_byHash, sk_leansOn, sk_leantBy, sk_changes, sk_lines, .int 0]))]) hD hS hA [4, 0, 1, 2, 3] rfl
    refine xc_call (xc_runV (As := [.ref rr, .int p1]) (rest := [.ref rr, .ref tx]) (C := "PatchStore") ⟨hx, hb, hml, hown, hts⟩ (m_PS_fileAt0 l dC dI cI cB cL cZ cR hlt h vw no rr sk (ps_tape) (.ref rp) (ps_sha) (ps_stock) (ps_intake) (.ref tx) (ps_maker) (ps_recording) (ps_tapeLength) (ps_lastFault) (vw_files) (vw_namings) (vw_changes) (vw_over) (vw_heads) (vw_nexts) (vw_sharing) (rr_members) (rr_digest) (rr_size) (rr_digestVersion) (sk_bytes) (sk_from) (sk_firstDependency) (sk_firstChange) (sk_dependencies) (sk_hashes) (sk_byHash) (sk_leansOn) (sk_leantBy) (sk_changes) (sk_lines) ver f0 p1 H.size ) (xc_bOf 2 hts (xg_in gw_994) (xc_Is.code (hts _ gw_994)) rfl rfl (hts _ gw_1) (by decide +kernel) ⟨Nat.le_of_ble_eq_true rfl, Nat.le_of_ble_eq_true rfl⟩) (hts _ gw_991) (hts _ gw_993) (hts _ (xg_p 34 (q := (⟨"PatchStore", "fileAt", "(LPatchStore$Repository;I)I"⟩, 11)) (by decide +kernel))) ⟨xw_blindx, va_recv hK hPc (ci := 0) (q0 := 0) rfl rfl, fun U hU hW => ⟨rfl, by rw [hU], by rw [hU]; exact hPc, va_K.moved hW.alike hK, hDc.weaken (fun _ _ _ _ => trivial), xg_N.warm hW hN, by rw [hU]; exact ((hTh.kept (fun a h1 h2 => hS.2.1 a h1 h2)).narrow hFc).moved hW.alike⟩⟩ rfl rfl hl.1 rfl (lv_room (Nat.le_of_ble_eq_true rfl)) d_PS_line_17 ⟨Nat.le_of_ble_eq_true rfl, Nat.le_of_ble_eq_true rfl⟩) hS (fun q _ h => hFc q h) hFc (fun v9 u t H1 locs ht hvm hw hB hz1 hk1 hS => ?_) (fun x9 C9 u t H1 locs ht hvm hw hex hB hz1 hk1 hS => ?_)
    · skip
      exact False.elim hw
    · obtain rfl : C9 = "java/util/NoSuchElementException" := hw
      refine xc_TW.widen (k := 2) (n := 12) (Nat.le_of_ble_eq_true rfl) (Nat.le_of_ble_eq_true rfl) ?_
      exact xc_pass (u := ()) hlocks hno ht hvm hex (Or.inr ⟨⟨n0, hn0, en0⟩, rfl⟩) (fun _ _ _ => trivial) hS
  · obtain ⟨hbad, rfl⟩ := hw
    refine xc_TW.widen (k := 2) (n := 12) (Nat.le_of_ble_eq_true rfl) (Nat.le_of_ble_eq_true rfl) ?_
    exact xc_pass (u := ()) hlocks hno ht hvm hex (Or.inl ⟨hbad, rfl⟩) (fun _ _ _ => trivial) hS
set_option maxHeartbeats 4000000 in
set_option maxRecDepth 100000 in
/-- show on a fresh object -/
theorem m_PS_show0 (l : Launch) (dC : Nat → ClassId) (dI : Nat → Nat → Nat) (cI cB cL cZ cR : ClassId) (hlt : xl_T l) (h sk : Nat) (ps_tape ps_repositories ps_sha ps_intake ps_view ps_text ps_maker ps_recording ps_tapeLength ps_lastFault sk_bytes sk_from sk_firstDependency sk_firstChange sk_dependencies sk_hashes sk_byHash sk_leansOn sk_leantBy sk_changes sk_lines : Value) (p0 : Int32) (sz : Nat) : xc_Met l y_PS_show ws_PS_show ({ frames := 14, cells := 1, slots := 6, locals := 400 }) (xw_Px dC dI [(cI, .int), (cB, .byte), (cL, .long), (cZ, .boolean), (cR, .object "PatchStore$Repository")] [.ref h, .int p0] [(h, .inr (0, [ps_tape, ps_repositories, ps_sha, .ref sk, ps_intake, ps_view, ps_text, ps_maker, ps_recording, ps_tapeLength, ps_lastFault])), (sk, .inr (9, [sk_bytes, sk_from, sk_firstDependency, sk_firstChange, sk_dependencies, sk_hashes, sk_byHash, sk_leansOn, sk_leantBy, sk_changes, sk_lines, .int 0]))] sz) (xc_Q (S := Unit) (fun _ (_ : Unit) => False) (fun C (_ : Unit) => C = "java/util/NoSuchElementException") (fun _ _ => True) (va_A [(h, .inr (0, [ps_tape, ps_repositories, ps_sha, .ref sk, ps_intake, ps_view, ps_text, ps_maker, ps_recording, ps_tapeLength, ps_lastFault])), (sk, .inr (9, [sk_bytes, sk_from, sk_firstDependency, sk_firstChange, sk_dependencies, sk_hashes, sk_byHash, sk_leansOn, sk_leantBy, sk_changes, sk_lines, .int 0]))] sz)) 1 6 (va_A [(h, .inr (0, [ps_tape, ps_repositories, ps_sha, .ref sk, ps_intake, ps_view, ps_text, ps_maker, ps_recording, ps_tapeLength, ps_lastFault])), (sk, .inr (9, [sk_bytes, sk_from, sk_firstDependency, sk_firstChange, sk_dependencies, sk_hashes, sk_byHash, sk_leansOn, sk_leantBy, sk_changes, sk_lines, .int 0]))] sz) := by
  refine xc_ofW (cc := prog_1_method_9_code) (maxL := 3) (ret := (Option.some Jvm.ClassFile.FieldType.int)) (by decide) rfl ?_
  intro p e s m args below meth c s₁ B hml hno hv
  obtain ⟨rfl, hsz, hP, hK, hD0, hN, hTh⟩ := hv
  have htr : e.platform.stackTraces = false := hlt e B.admits
  have hx := B.exec
  have hb := B.bytes
  have hr := B.returns
  have hts0 := atoms_spec (ws := ws_PS_show) B.pre
  have hts : ∀ w ∈ xg_1, w.before _ s = true := fun w h => hts0 w (List.mem_cons_of_mem _ h)
  have hown : s.vm.findClass "PatchStore" = some m.cls := findClass_of_methodNamed B.named
  have hlocks := B.notSynchronized
  subst hsz
  have hD := hD0.self (sz := s.heap.size)
  generalize hAe : va_A [(h, .inr (0, [ps_tape, ps_repositories, ps_sha, .ref sk, ps_intake, ps_view, ps_text, ps_maker, ps_recording, ps_tapeLength, ps_lastFault])), (sk, .inr (9, [sk_bytes, sk_from, sk_firstDependency, sk_firstChange, sk_dependencies, sk_hashes, sk_byHash, sk_leansOn, sk_leantBy, sk_changes, sk_lines, .int 0]))] s.heap.size = A at hD hTh ⊢
  have hA : ∀ q : Nat, s.heap.size ≤ q → A q := fun q h => by rw [← hAe]; exact Or.inr h
  have hS : va_S A s.heap s.heap [] := va_S.rf
  have hl := lv_entry ([.ref h, .int p0]) (n := 3) (Nat.le_of_ble_eq_true rfl)
  rw [lg_entry_eq]
  generalize (lg_sl ([.ref h, .int p0]) ++ List.replicate (3 - (lg_sl ([.ref h, .int p0])).length) Slot.unset).toArray = ls at hl ⊢
  have hl : lv_has ls 3 [(0, .ref h), (1, .int p0)] := hl
  refine lv_aload_n hx hb d_PS_show_0 rfl (lv_at hl 0 rfl) ?_
  refine lv_iload_n hx hb d_PS_show_1 rfl (lv_at hl 1 rfl) ?_
  have hPc := hP.sub (ws' := [(h, .inr (0, [ps_tape, ps_repositories, ps_sha, .ref sk, ps_intake, ps_view, ps_text, ps_maker, ps_recording, ps_tapeLength, ps_lastFault])), (sk, .inr (9, [sk_bytes, sk_from, sk_firstDependency, sk_firstChange, sk_dependencies, sk_hashes, sk_byHash, sk_leansOn, sk_leantBy, sk_changes, sk_lines, .int 0]))]) [0, 1] rfl
  have hDc := hD.sub (ws' := [(h, .inr (0, [ps_tape, ps_repositories, ps_sha, .ref sk, ps_intake, ps_view, ps_text, ps_maker, ps_recording, ps_tapeLength, ps_lastFault])), (sk, .inr (9, [sk_bytes, sk_from, sk_firstDependency, sk_firstChange, sk_dependencies, sk_hashes, sk_byHash, sk_leansOn, sk_leantBy, sk_changes, sk_lines, .int 0]))]) [0, 1] (by decide) rfl
  have hFc := va_free (wc := [(h, .inr (0, [ps_tape, ps_repositories, ps_sha, .ref sk, ps_intake, ps_view, ps_text, ps_maker, ps_recording, ps_tapeLength, ps_lastFault])), (sk, .inr (9, [sk_bytes, sk_from, sk_firstDependency, sk_firstChange, sk_dependencies, sk_hashes, sk_byHash, sk_leansOn, sk_leantBy, sk_changes, sk_lines, .int 0]))]) hD hS hA [0, 1] rfl
  refine xc_call (xc_runV (As := [.int p0]) (rest := []) (C := "PatchStore") ⟨hx, hb, hml, hown, hts⟩ (m_PS_checkPatch l dC dI cI cB cL cZ cR hlt h sk (ps_tape) (ps_repositories) (ps_sha) (ps_intake) (ps_view) (ps_text) (ps_maker) (ps_recording) (ps_tapeLength) (ps_lastFault) (sk_bytes) (sk_from) (sk_firstDependency) (sk_firstChange) (sk_dependencies) (sk_hashes) (sk_byHash) (sk_leansOn) (sk_leantBy) (sk_changes) (sk_lines) 0 p0 s.heap.size (by decide)) (xc_bOf 1 hts (xg_in gw_1221) (xc_Is.code (hts _ gw_1221)) rfl rfl (hts _ gw_1) (by decide +kernel) ⟨Nat.le_of_ble_eq_true rfl, Nat.le_of_ble_eq_true rfl⟩) (hts _ gw_1218) (hts _ gw_1220) (hts _ (xg_p 64 (q := (⟨"PatchStore", "checkPatch", "(I)V"⟩, 11)) (by decide +kernel))) ⟨xw_blindx, va_recv hK hPc (ci := 0) (q0 := 0) rfl rfl, fun U hU hW => ⟨rfl, by rw [hU], by rw [hU]; exact hPc, va_K.moved hW.alike hK, hDc.weaken (fun _ _ _ _ => trivial), xg_N.warm hW hN, by rw [hU]; exact ((hTh.kept (fun a h1 h2 => hS.2.1 a h1 h2)).narrow hFc).moved hW.alike⟩⟩ rfl rfl hl.1 rfl (lv_room (Nat.le_of_ble_eq_true rfl)) d_PS_show_2 ⟨Nat.le_of_ble_eq_true rfl, Nat.le_of_ble_eq_true rfl⟩) hS (fun q _ h => hFc q h) hFc (fun v9 u t H1 locs ht hvm hw hB hz1 hk1 hS => ?_) (fun x9 C9 u t H1 locs ht hvm hw hex hB hz1 hk1 hS => ?_)
  · skip
    obtain ⟨⟨n9, hn9, -⟩, -⟩ := hw; exact absurd hn9 (Nat.not_lt_zero _)
  · obtain ⟨hbad, rfl⟩ := hw
    refine xc_TW.widen (k := 1) (n := 6) (Nat.le_of_ble_eq_true rfl) (Nat.le_of_ble_eq_true rfl) ?_
    exact xc_pass (u := ()) hlocks hno ht hvm hex (rfl) (fun _ _ _ => trivial) hS
set_option maxHeartbeats 4000000 in
set_option maxRecDepth 100000 in
/-- hash on a fresh object -/
theorem m_PS_hash0 (l : Launch) (dC : Nat → ClassId) (dI : Nat → Nat → Nat) (cI cB cL cZ cR : ClassId) (hlt : xl_T l) (h sk : Nat) (ps_tape ps_repositories ps_sha ps_intake ps_view ps_text ps_maker ps_recording ps_tapeLength ps_lastFault sk_bytes sk_from sk_firstDependency sk_firstChange sk_dependencies sk_hashes sk_byHash sk_leansOn sk_leantBy sk_changes sk_lines : Value) (p0 p1 : Int32) (sz : Nat) : xc_Met l y_PS_hash ws_PS_hash ({ frames := 14, cells := 1, slots := 6, locals := 400 }) (xw_Px dC dI [(cI, .int), (cB, .byte), (cL, .long), (cZ, .boolean), (cR, .object "PatchStore$Repository")] [.ref h, .int p0, .int p1] [(h, .inr (0, [ps_tape, ps_repositories, ps_sha, .ref sk, ps_intake, ps_view, ps_text, ps_maker, ps_recording, ps_tapeLength, ps_lastFault])), (sk, .inr (9, [sk_bytes, sk_from, sk_firstDependency, sk_firstChange, sk_dependencies, sk_hashes, sk_byHash, sk_leansOn, sk_leantBy, sk_changes, sk_lines, .int 0]))] sz) (xc_Q (S := Unit) (fun _ (_ : Unit) => False) (fun C (_ : Unit) => C = "java/util/NoSuchElementException") (fun _ _ => True) (va_A [(h, .inr (0, [ps_tape, ps_repositories, ps_sha, .ref sk, ps_intake, ps_view, ps_text, ps_maker, ps_recording, ps_tapeLength, ps_lastFault])), (sk, .inr (9, [sk_bytes, sk_from, sk_firstDependency, sk_firstChange, sk_dependencies, sk_hashes, sk_byHash, sk_leansOn, sk_leantBy, sk_changes, sk_lines, .int 0]))] sz)) 1 6 (va_A [(h, .inr (0, [ps_tape, ps_repositories, ps_sha, .ref sk, ps_intake, ps_view, ps_text, ps_maker, ps_recording, ps_tapeLength, ps_lastFault])), (sk, .inr (9, [sk_bytes, sk_from, sk_firstDependency, sk_firstChange, sk_dependencies, sk_hashes, sk_byHash, sk_leansOn, sk_leantBy, sk_changes, sk_lines, .int 0]))] sz) := by
  refine xc_ofW (cc := prog_1_method_13_code) (maxL := 3) (ret := (Option.some Jvm.ClassFile.FieldType.int)) (by decide) rfl ?_
  intro p e s m args below meth c s₁ B hml hno hv
  obtain ⟨rfl, hsz, hP, hK, hD0, hN, hTh⟩ := hv
  have htr : e.platform.stackTraces = false := hlt e B.admits
  have hx := B.exec
  have hb := B.bytes
  have hr := B.returns
  have hts0 := atoms_spec (ws := ws_PS_hash) B.pre
  have hts : ∀ w ∈ xg_1, w.before _ s = true := fun w h => hts0 w (List.mem_cons_of_mem _ h)
  have hown : s.vm.findClass "PatchStore" = some m.cls := findClass_of_methodNamed B.named
  have hlocks := B.notSynchronized
  subst hsz
  have hD := hD0.self (sz := s.heap.size)
  generalize hAe : va_A [(h, .inr (0, [ps_tape, ps_repositories, ps_sha, .ref sk, ps_intake, ps_view, ps_text, ps_maker, ps_recording, ps_tapeLength, ps_lastFault])), (sk, .inr (9, [sk_bytes, sk_from, sk_firstDependency, sk_firstChange, sk_dependencies, sk_hashes, sk_byHash, sk_leansOn, sk_leantBy, sk_changes, sk_lines, .int 0]))] s.heap.size = A at hD hTh ⊢
  have hA : ∀ q : Nat, s.heap.size ≤ q → A q := fun q h => by rw [← hAe]; exact Or.inr h
  have hS : va_S A s.heap s.heap [] := va_S.rf
  have hl := lv_entry ([.ref h, .int p0, .int p1]) (n := 3) (Nat.le_of_ble_eq_true rfl)
  rw [lg_entry_eq]
  generalize (lg_sl ([.ref h, .int p0, .int p1]) ++ List.replicate (3 - (lg_sl ([.ref h, .int p0, .int p1])).length) Slot.unset).toArray = ls at hl ⊢
  have hl : lv_has ls 3 [(0, .ref h), (1, .int p0), (2, .int p1)] := hl
  refine lv_aload_n hx hb d_PS_hash_0 rfl (lv_at hl 0 rfl) ?_
  refine lv_iload_n hx hb d_PS_hash_1 rfl (lv_at hl 1 rfl) ?_
  have hPc := hP.sub (ws' := [(h, .inr (0, [ps_tape, ps_repositories, ps_sha, .ref sk, ps_intake, ps_view, ps_text, ps_maker, ps_recording, ps_tapeLength, ps_lastFault])), (sk, .inr (9, [sk_bytes, sk_from, sk_firstDependency, sk_firstChange, sk_dependencies, sk_hashes, sk_byHash, sk_leansOn, sk_leantBy, sk_changes, sk_lines, .int 0]))]) [0, 1] rfl
  have hDc := hD.sub (ws' := [(h, .inr (0, [ps_tape, ps_repositories, ps_sha, .ref sk, ps_intake, ps_view, ps_text, ps_maker, ps_recording, ps_tapeLength, ps_lastFault])), (sk, .inr (9, [sk_bytes, sk_from, sk_firstDependency, sk_firstChange, sk_dependencies, sk_hashes, sk_byHash, sk_leansOn, sk_leantBy, sk_changes, sk_lines, .int 0]))]) [0, 1] (by decide) rfl
  have hFc := va_free (wc := [(h, .inr (0, [ps_tape, ps_repositories, ps_sha, .ref sk, ps_intake, ps_view, ps_text, ps_maker, ps_recording, ps_tapeLength, ps_lastFault])), (sk, .inr (9, [sk_bytes, sk_from, sk_firstDependency, sk_firstChange, sk_dependencies, sk_hashes, sk_byHash, sk_leansOn, sk_leantBy, sk_changes, sk_lines, .int 0]))]) hD hS hA [0, 1] rfl
  refine xc_call (xc_runV (As := [.int p0]) (rest := []) (C := "PatchStore") ⟨hx, hb, hml, hown, hts⟩ (m_PS_checkPatch l dC dI cI cB cL cZ cR hlt h sk (ps_tape) (ps_repositories) (ps_sha) (ps_intake) (ps_view) (ps_text) (ps_maker) (ps_recording) (ps_tapeLength) (ps_lastFault) (sk_bytes) (sk_from) (sk_firstDependency) (sk_firstChange) (sk_dependencies) (sk_hashes) (sk_byHash) (sk_leansOn) (sk_leantBy) (sk_changes) (sk_lines) 0 p0 s.heap.size (by decide)) (xc_bOf 1 hts (xg_in gw_1221) (xc_Is.code (hts _ gw_1221)) rfl rfl (hts _ gw_1) (by decide +kernel) ⟨Nat.le_of_ble_eq_true rfl, Nat.le_of_ble_eq_true rfl⟩) (hts _ gw_1218) (hts _ gw_1220) (hts _ (xg_p 64 (q := (⟨"PatchStore", "checkPatch", "(I)V"⟩, 11)) (by decide +kernel))) ⟨xw_blindx, va_recv hK hPc (ci := 0) (q0 := 0) rfl rfl, fun U hU hW => ⟨rfl, by rw [hU], by rw [hU]; exact hPc, va_K.moved hW.alike hK, hDc.weaken (fun _ _ _ _ => trivial), xg_N.warm hW hN, by rw [hU]; exact ((hTh.kept (fun a h1 h2 => hS.2.1 a h1 h2)).narrow hFc).moved hW.alike⟩⟩ rfl rfl hl.1 rfl (lv_room (Nat.le_of_ble_eq_true rfl)) d_PS_hash_2 ⟨Nat.le_of_ble_eq_true rfl, Nat.le_of_ble_eq_true rfl⟩) hS (fun q _ h => hFc q h) hFc (fun v9 u t H1 locs ht hvm hw hB hz1 hk1 hS => ?_) (fun x9 C9 u t H1 locs ht hvm hw hex hB hz1 hk1 hS => ?_)
  · skip
    obtain ⟨⟨n9, hn9, -⟩, -⟩ := hw; exact absurd hn9 (Nat.not_lt_zero _)
  · obtain ⟨hbad, rfl⟩ := hw
    refine xc_TW.widen (k := 1) (n := 6) (Nat.le_of_ble_eq_true rfl) (Nat.le_of_ble_eq_true rfl) ?_
    exact xc_pass (u := ()) hlocks hno ht hvm hex (rfl) (fun _ _ _ => trivial) hS
set_option maxHeartbeats 4000000 in
set_option maxRecDepth 100000 in
/-- has on a fresh object -/
theorem m_PS_has0 (l : Launch) (dC : Nat → ClassId) (dI : Nat → Nat → Nat) (cI cB cL cZ cR : ClassId) (hlt : xl_T l) (h rp rr sk : Nat) (ps_tape ps_sha ps_intake ps_view ps_text ps_maker ps_recording ps_tapeLength ps_lastFault sk_bytes sk_from sk_firstDependency sk_firstChange sk_dependencies sk_hashes sk_byHash sk_leansOn sk_leantBy sk_changes sk_lines : Value) (g : Nat → Nat) (rf : Nat → Option Nat) (p0 p1 p2 : Int32) (sz : Nat) (hrf : ∀ k, k < 8 → rf k = some (g k)) (hrr_rr : ∀ n, n < 8 → p0 = nI n → g n = rr) : xc_Met l y_PS_has ws_PS_has ({ frames := 14, cells := 2, slots := 12, locals := 400 }) (xw_Px dC dI [(cI, .int), (cB, .byte), (cL, .long), (cZ, .boolean), (cR, .object "PatchStore$Repository")] [.ref h, .int p0, .int p1, .int p2] [(h, .inr (0, [ps_tape, .ref rp, ps_sha, .ref sk, ps_intake, ps_view, ps_text, ps_maker, ps_recording, ps_tapeLength, ps_lastFault])), (rp, .inl (cR, 8, .inr (.inr (.inr (.inr rf))))), (sk, .inr (9, [sk_bytes, sk_from, sk_firstDependency, sk_firstChange, sk_dependencies, sk_hashes, sk_byHash, sk_leansOn, sk_leantBy, sk_changes, sk_lines, .int 0]))] sz) (xc_Q (S := Unit) (fun _ (_ : Unit) => False) (fun C (_ : Unit) => ((¬ ∃ n : Nat, n < 8 ∧ p0 = nI n) ∧ C = "java/util/NoSuchElementException") ∨ ((∃ n : Nat, n < 8 ∧ p0 = nI n) ∧ C = "java/util/NoSuchElementException")) (fun _ _ => True) (va_A [(h, .inr (0, [ps_tape, .ref rp, ps_sha, .ref sk, ps_intake, ps_view, ps_text, ps_maker, ps_recording, ps_tapeLength, ps_lastFault])), (rp, .inl (cR, 8, .inr (.inr (.inr (.inr rf))))), (sk, .inr (9, [sk_bytes, sk_from, sk_firstDependency, sk_firstChange, sk_dependencies, sk_hashes, sk_byHash, sk_leansOn, sk_leantBy, sk_changes, sk_lines, .int 0]))] sz)) 2 12 (va_A [(h, .inr (0, [ps_tape, .ref rp, ps_sha, .ref sk, ps_intake, ps_view, ps_text, ps_maker, ps_recording, ps_tapeLength, ps_lastFault])), (rp, .inl (cR, 8, .inr (.inr (.inr (.inr rf))))), (sk, .inr (9, [sk_bytes, sk_from, sk_firstDependency, sk_firstChange, sk_dependencies, sk_hashes, sk_byHash, sk_leansOn, sk_leantBy, sk_changes, sk_lines, .int 0]))] sz) := by
  refine xc_ofW (cc := prog_1_method_12_code) (maxL := 5) (ret := (Option.some Jvm.ClassFile.FieldType.int)) (by decide) rfl ?_
  intro p e s m args below meth c s₁ B hml hno hv
  obtain ⟨rfl, hsz, hP, hK, hD0, hN, hTh⟩ := hv
  have htr : e.platform.stackTraces = false := hlt e B.admits
  have hx := B.exec
  have hb := B.bytes
  have hr := B.returns
  have hts0 := atoms_spec (ws := ws_PS_has) B.pre
  have hts : ∀ w ∈ xg_1, w.before _ s = true := fun w h => hts0 w (List.mem_cons_of_mem _ h)
  have hown : s.vm.findClass "PatchStore" = some m.cls := findClass_of_methodNamed B.named
  have hlocks := B.notSynchronized
  subst hsz
  have hD := hD0.self (sz := s.heap.size)
  generalize hAe : va_A [(h, .inr (0, [ps_tape, .ref rp, ps_sha, .ref sk, ps_intake, ps_view, ps_text, ps_maker, ps_recording, ps_tapeLength, ps_lastFault])), (rp, .inl (cR, 8, .inr (.inr (.inr (.inr rf))))), (sk, .inr (9, [sk_bytes, sk_from, sk_firstDependency, sk_firstChange, sk_dependencies, sk_hashes, sk_byHash, sk_leansOn, sk_leantBy, sk_changes, sk_lines, .int 0]))] s.heap.size = A at hD hTh ⊢
  have hA : ∀ q : Nat, s.heap.size ≤ q → A q := fun q h => by rw [← hAe]; exact Or.inr h
  have hS : va_S A s.heap s.heap [] := va_S.rf
  have hl := lv_entry ([.ref h, .int p0, .int p1, .int p2]) (n := 5) (Nat.le_of_ble_eq_true rfl)
  rw [lg_entry_eq]
  generalize (lg_sl ([.ref h, .int p0, .int p1, .int p2]) ++ List.replicate (5 - (lg_sl ([.ref h, .int p0, .int p1, .int p2])).length) Slot.unset).toArray = ls at hl ⊢
  have hl : lv_has ls 5 [(0, .ref h), (1, .int p0), (2, .int p1), (3, .int p2)] := hl
  refine lv_aload_n hx hb d_PS_has_0 rfl (lv_at hl 0 rfl) ?_
  refine lv_iload_n hx hb d_PS_has_1 rfl (lv_at hl 1 rfl) ?_
  have hPc := hP.sub (ws' := [(h, .inr (0, [ps_tape, .ref rp, ps_sha, .ref sk, ps_intake, ps_view, ps_text, ps_maker, ps_recording, ps_tapeLength, ps_lastFault])), (rp, .inl (cR, 8, .inr (.inr (.inr (.inr rf)))))]) [0, 1] rfl
  have hDc := hD.sub (ws' := [(h, .inr (0, [ps_tape, .ref rp, ps_sha, .ref sk, ps_intake, ps_view, ps_text, ps_maker, ps_recording, ps_tapeLength, ps_lastFault])), (rp, .inl (cR, 8, .inr (.inr (.inr (.inr rf)))))]) [0, 1] (by decide) rfl
  have hFc := va_free (wc := [(h, .inr (0, [ps_tape, .ref rp, ps_sha, .ref sk, ps_intake, ps_view, ps_text, ps_maker, ps_recording, ps_tapeLength, ps_lastFault])), (rp, .inl (cR, 8, .inr (.inr (.inr (.inr rf)))))]) hD hS hA [0, 1] rfl
  refine xc_call (xc_runV (As := [.int p0]) (rest := []) (C := "PatchStore") ⟨hx, hb, hml, hown, hts⟩ (m_PS_repositoryAt l dC dI cI cB cL cZ cR hlt h rp (ps_tape) (ps_sha) (.ref sk) (ps_intake) (ps_view) (ps_text) (ps_maker) (ps_recording) (ps_tapeLength) (ps_lastFault) g rf p0 s.heap.size hrf) (xc_bOf 1 hts (xg_in gw_703) (xc_Is.code (hts _ gw_703)) rfl rfl (hts _ gw_1) (by decide +kernel) ⟨Nat.le_of_ble_eq_true rfl, Nat.le_of_ble_eq_true rfl⟩) (hts _ gw_700) (hts _ gw_702) (hts _ (xg_p 2 (q := (⟨"PatchStore", "repositoryAt", "(I)LPatchStore$Repository;"⟩, 11)) (by decide +kernel))) ⟨xw_blindx, va_recv hK hPc (ci := 0) (q0 := 0) rfl rfl, fun U hU hW => ⟨rfl, by rw [hU], by rw [hU]; exact hPc, va_K.moved hW.alike hK, hDc.weaken (fun _ _ _ _ => trivial), xg_N.warm hW hN, by rw [hU]; exact ((hTh.kept (fun a h1 h2 => hS.2.1 a h1 h2)).narrow hFc).moved hW.alike⟩⟩ rfl rfl hl.1 rfl (lv_room (Nat.le_of_ble_eq_true rfl)) d_PS_has_2 ⟨Nat.le_of_ble_eq_true rfl, Nat.le_of_ble_eq_true rfl⟩) hS (fun q _ h => hFc q h) hFc (fun v9 u t H1 locs ht hvm hw hB hz1 hk1 hS => ?_) (fun x9 C9 u t H1 locs ht hvm hw hex hB hz1 hk1 hS => ?_)
  · obtain ⟨n0, hn0, en0, rfl⟩ := hw
    rw [hrr_rr n0 hn0 en0]
    obtain ⟨hP1, hK1, hD1⟩ := hB
    rw [ht] at hP1
    obtain ⟨hP, hD⟩ := va_join (wr := [(sk, .inr (9, [sk_bytes, sk_from, sk_firstDependency, sk_firstChange, sk_dependencies, sk_hashes, sk_byHash, sk_leansOn, sk_leantBy, sk_changes, sk_lines, .int 0]))]) (w1 := [(h, .inr (0, [ps_tape, .ref rp, ps_sha, .ref sk, ps_intake, ps_view, ps_text, ps_maker, ps_recording, ps_tapeLength, ps_lastFault])), (rp, .inl (cR, 8, .inr (.inr (.inr (.inr rf)))))]) hP hD [0, 1] [2] rfl rfl (by decide) (by decide) hk1 hFc hP1 hD1
    generalize H1 = H at hP hS ht ⊢
    have hP : va_P (dC, dI) classes [(sk, .inr (9, [sk_bytes, sk_from, sk_firstDependency, sk_firstChange, sk_dependencies, sk_hashes, sk_byHash, sk_leansOn, sk_leantBy, sk_changes, sk_lines, .int 0])), (h, .inr (0, [ps_tape, .ref rp, ps_sha, .ref sk, ps_intake, ps_view, ps_text, ps_maker, ps_recording, ps_tapeLength, ps_lastFault])), (rp, .inl (cR, 8, .inr (.inr (.inr (.inr rf)))))] H := hP
    have hD : va_D A [(sk, .inr (9, [sk_bytes, sk_from, sk_firstDependency, sk_firstChange, sk_dependencies, sk_hashes, sk_byHash, sk_leansOn, sk_leantBy, sk_changes, sk_lines, .int 0])), (h, .inr (0, [ps_tape, .ref rp, ps_sha, .ref sk, ps_intake, ps_view, ps_text, ps_maker, ps_recording, ps_tapeLength, ps_lastFault])), (rp, .inl (cR, 8, .inr (.inr (.inr (.inr rf)))))] := hD
    refine W.eq (g2 := F0 m 5 ls [.ref rr]) rfl ?_
    refine W.widen (k := 1) (n := 6) (Nat.le_of_ble_eq_true rfl) (Nat.le_of_ble_eq_true rfl) ?_
    refine lv_astore (lv' := [(4, .ref rr), (0, .ref h), (1, .int p0), (2, .int p1), (3, .int p2)]) hx hb d_PS_has_5 hl (by decide) rfl (fun ls hl => ?_)
    refine lv_aload_n hx hb d_PS_has_7 rfl (lv_at hl 1 rfl) ?_
    refine lv_iload_n hx hb d_PS_has_8 rfl (lv_at hl 3 rfl) ?_
    have hPc := hP.sub (ws' := [(h, .inr (0, [ps_tape, .ref rp, ps_sha, .ref sk, ps_intake, ps_view, ps_text, ps_maker, ps_recording, ps_tapeLength, ps_lastFault])), (sk, .inr (9, [sk_bytes, sk_from, sk_firstDependency, sk_firstChange, sk_dependencies, sk_hashes, sk_byHash, sk_leansOn, sk_leantBy, sk_changes, sk_lines, .int 0]))]) [1, 0] rfl
    have hDc := hD.sub (ws' := [(h, .inr (0, [ps_tape, .ref rp, ps_sha, .ref sk, ps_intake, ps_view, ps_text, ps_maker, ps_recording, ps_tapeLength, ps_lastFault])), (sk, .inr (9, [sk_bytes, sk_from, sk_firstDependency, sk_firstChange, sk_dependencies, sk_hashes, sk_byHash, sk_leansOn, sk_leantBy, sk_changes, sk_lines, .int 0]))]) [1, 0] (by decide) rfl
    have hFc := va_free (wc := [(h, .inr (0, [ps_tape, .ref rp, ps_sha, .ref sk, ps_intake, ps_view, ps_text, ps_maker, ps_recording, ps_tapeLength, ps_lastFault])), (sk, .inr (9, [sk_bytes, sk_from, sk_firstDependency, sk_firstChange, sk_dependencies, sk_hashes, sk_byHash, sk_leansOn, sk_leantBy, sk_changes, sk_lines, .int 0]))]) hD hS hA [1, 0] rfl
    refine xc_call (xc_runV (As := [.int p1]) (rest := []) (C := "PatchStore") ⟨hx, hb, hml, hown, hts⟩ (m_PS_checkPatch l dC dI cI cB cL cZ cR hlt h sk (ps_tape) (.ref rp) (ps_sha) (ps_intake) (ps_view) (ps_text) (ps_maker) (ps_recording) (ps_tapeLength) (ps_lastFault) (sk_bytes) (sk_from) (sk_firstDependency) (sk_firstChange) (sk_dependencies) (sk_hashes) (sk_byHash) (sk_leansOn) (sk_leantBy) (sk_changes) (sk_lines) 0 p1 H.size (by decide)) (xc_bOf 1 hts (xg_in gw_1221) (xc_Is.code (hts _ gw_1221)) rfl rfl (hts _ gw_1) (by decide +kernel) ⟨Nat.le_of_ble_eq_true rfl, Nat.le_of_ble_eq_true rfl⟩) (hts _ gw_1218) (hts _ gw_1220) (hts _ (xg_p 64 (q := (⟨"PatchStore", "checkPatch", "(I)V"⟩, 11)) (by decide +kernel))) ⟨xw_blindx, va_recv hK hPc (ci := 0) (q0 := 0) rfl rfl, fun U hU hW => ⟨rfl, by rw [hU], by rw [hU]; exact hPc, va_K.moved hW.alike hK, hDc.weaken (fun _ _ _ _ => trivial), xg_N.warm hW hN, by rw [hU]; exact ((hTh.kept (fun a h1 h2 => hS.2.1 a h1 h2)).narrow hFc).moved hW.alike⟩⟩ rfl rfl hl.1 rfl (lv_room (Nat.le_of_ble_eq_true rfl)) d_PS_has_9 ⟨Nat.le_of_ble_eq_true rfl, Nat.le_of_ble_eq_true rfl⟩) hS (fun q _ h => hFc q h) hFc (fun v9 u t H1 locs ht hvm hw hB hz1 hk1 hS => ?_) (fun x9 C9 u t H1 locs ht hvm hw hex hB hz1 hk1 hS => ?_)
    · skip
      obtain ⟨⟨n9, hn9, -⟩, -⟩ := hw; exact absurd hn9 (Nat.not_lt_zero _)
    · obtain ⟨hbad, rfl⟩ := hw
      refine xc_TW.widen (k := 2) (n := 12) (Nat.le_of_ble_eq_true rfl) (Nat.le_of_ble_eq_true rfl) ?_
      exact xc_pass (u := ()) hlocks hno ht hvm hex (Or.inr ⟨⟨n0, hn0, en0⟩, rfl⟩) (fun _ _ _ => trivial) hS
  · obtain ⟨hbad, rfl⟩ := hw
    refine xc_TW.widen (k := 2) (n := 12) (Nat.le_of_ble_eq_true rfl) (Nat.le_of_ble_eq_true rfl) ?_
    exact xc_pass (u := ()) hlocks hno ht hvm hex (Or.inl ⟨hbad, rfl⟩) (fun _ _ _ => trivial) hS
