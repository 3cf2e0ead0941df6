/-! 33.model3.lean.txt -/
theorem gw_1689 : (Jvm.Cond.methodLink "PatchStoreModel" (430 : Nat) ({ cls := "PatchStoreModel", name := "none", desc := "(I)Z" } : Jvm.MethodName)) ∈ xg_1 := xg_s8 9 rfl rfl
theorem gw_1691 : (Jvm.Cond.instanceMethod ({ cls := "PatchStoreModel", name := "none", desc := "(I)Z" } : Jvm.MethodName)) ∈ xg_1 := xg_s8 11 rfl rfl
theorem gw_1692 : (Jvm.Cond.code ({ cls := "PatchStoreModel", name := "none", desc := "(I)Z" } : Jvm.MethodName) prog_14_method_31_code (2 : Nat) (Option.some Jvm.ClassFile.FieldType.boolean)) ∈ xg_1 := xg_s8 12 rfl rfl
theorem gw_1870 : (Jvm.Cond.methodLink "PatchStoreModel" (448 : Nat) ({ cls := "PatchStoreModel", name := "fileAt", desc := "(II)I" } : Jvm.MethodName)) ∈ xg_1 := xg_s8 190 rfl rfl
theorem gw_1872 : (Jvm.Cond.instanceMethod ({ cls := "PatchStoreModel", name := "fileAt", desc := "(II)I" } : Jvm.MethodName)) ∈ xg_1 := xg_s8 192 rfl rfl
theorem gw_1873 : (Jvm.Cond.code ({ cls := "PatchStoreModel", name := "fileAt", desc := "(II)I" } : Jvm.MethodName) prog_14_method_39_code (3 : Nat) (Option.some Jvm.ClassFile.FieldType.int)) ∈ xg_1 := xg_s8 193 rfl rfl
theorem gw_1874 : (Jvm.Cond.methodLink "PatchStoreModel" (394 : Nat) ({ cls := "PatchStoreModel", name := "list", desc := "(I)I" } : Jvm.MethodName)) ∈ xg_1 := xg_s8 194 rfl rfl
theorem gw_1876 : (Jvm.Cond.instanceMethod ({ cls := "PatchStoreModel", name := "list", desc := "(I)I" } : Jvm.MethodName)) ∈ xg_1 := xg_s8 196 rfl rfl
theorem gw_1877 : (Jvm.Cond.code ({ cls := "PatchStoreModel", name := "list", desc := "(I)I" } : Jvm.MethodName) prog_14_method_38_code (5 : Nat) (Option.some Jvm.ClassFile.FieldType.int)) ∈ xg_1 := xg_s8 197 rfl rfl
def y_Md_add : MethodName := ⟨"PatchStoreModel", "add", "(II)I"⟩
abbrev c_Md_add : Cond := (Jvm.Cond.code ({ cls := "PatchStoreModel", name := "add", desc := "(II)I" } : Jvm.MethodName) prog_14_method_54_code (5 : Nat) (Option.some Jvm.ClassFile.FieldType.int))
abbrev ws_Md_add : List Cond := c_Md_add :: xg_1
theorem d_Md_add_0 : decode prog_14_method_54_code 0 = .ok (.aload_n 0, 1) := by decide +kernel
theorem d_Md_add_1 : decode prog_14_method_54_code 1 = .ok (.iload_n 1, 1) := by decide +kernel
theorem d_Md_add_2 : decode prog_14_method_54_code 2 = .ok (.invokevirtual 430, 3) := by decide +kernel
theorem d_Md_add_5 : decode prog_14_method_54_code 5 = .ok (.ifCond .eq 5, 3) := by decide +kernel
theorem d_Md_add_8 : decode prog_14_method_54_code 8 = .ok (.iconst 0, 1) := by decide +kernel
theorem d_Md_add_9 : decode prog_14_method_54_code 9 = .ok (.ireturn, 1) := by decide +kernel
theorem d_Md_add_10 : decode prog_14_method_54_code 10 = .ok (.aload_n 0, 1) := by decide +kernel
theorem d_Md_add_11 : decode prog_14_method_54_code 11 = .ok (.getfield 14, 3) := by decide +kernel
theorem d_Md_add_14 : decode prog_14_method_54_code 14 = .ok (.ifCond .le 16, 3) := by decide +kernel
theorem d_Md_add_17 : decode prog_14_method_54_code 17 = .ok (.aload_n 0, 1) := by decide +kernel
theorem d_Md_add_18 : decode prog_14_method_54_code 18 = .ok (.getfield 14, 3) := by decide +kernel
theorem d_Md_add_21 : decode prog_14_method_54_code 21 = .ok (.bipush 65, 2) := by decide +kernel
theorem d_Md_add_23 : decode prog_14_method_54_code 23 = .ok (.if_icmp .ge 7, 3) := by decide +kernel
theorem d_Md_add_26 : decode prog_14_method_54_code 26 = .ok (.iconst 1, 1) := by decide +kernel
theorem d_Md_add_27 : decode prog_14_method_54_code 27 = .ok (.goto 4, 3) := by decide +kernel
theorem d_Md_add_30 : decode prog_14_method_54_code 30 = .ok (.iconst 0, 1) := by decide +kernel
theorem d_Md_add_31 : decode prog_14_method_54_code 31 = .ok (.istore_n 3, 1) := by decide +kernel
theorem d_Md_add_32 : decode prog_14_method_54_code 32 = .ok (.iconst 0, 1) := by decide +kernel
theorem d_Md_add_33 : decode prog_14_method_54_code 33 = .ok (.istore 4, 2) := by decide +kernel
theorem d_Md_add_35 : decode prog_14_method_54_code 35 = .ok (.iload 4, 2) := by decide +kernel
theorem d_Md_add_37 : decode prog_14_method_54_code 37 = .ok (.aload_n 0, 1) := by decide +kernel
theorem d_Md_add_38 : decode prog_14_method_54_code 38 = .ok (.getfield 14, 3) := by decide +kernel
theorem d_Md_add_41 : decode prog_14_method_54_code 41 = .ok (.if_icmp .ge 43, 3) := by decide +kernel
theorem d_Md_add_44 : decode prog_14_method_54_code 44 = .ok (.iload_n 3, 1) := by decide +kernel
theorem d_Md_add_45 : decode prog_14_method_54_code 45 = .ok (.ifCond .eq 39, 3) := by decide +kernel
theorem d_Md_add_48 : decode prog_14_method_54_code 48 = .ok (.aload_n 0, 1) := by decide +kernel
theorem d_Md_add_49 : decode prog_14_method_54_code 49 = .ok (.getfield 8, 3) := by decide +kernel
theorem d_Md_add_52 : decode prog_14_method_54_code 52 = .ok (.iload 4, 2) := by decide +kernel
theorem d_Md_add_54 : decode prog_14_method_54_code 54 = .ok (.baload, 1) := by decide +kernel
theorem d_Md_add_55 : decode prog_14_method_54_code 55 = .ok (.bipush 32, 2) := by decide +kernel
theorem d_Md_add_57 : decode prog_14_method_54_code 57 = .ok (.if_icmp .le 19, 3) := by decide +kernel
theorem d_Md_add_60 : decode prog_14_method_54_code 60 = .ok (.aload_n 0, 1) := by decide +kernel
theorem d_Md_add_61 : decode prog_14_method_54_code 61 = .ok (.getfield 8, 3) := by decide +kernel
theorem d_Md_add_64 : decode prog_14_method_54_code 64 = .ok (.iload 4, 2) := by decide +kernel
theorem d_Md_add_66 : decode prog_14_method_54_code 66 = .ok (.baload, 1) := by decide +kernel
theorem d_Md_add_67 : decode prog_14_method_54_code 67 = .ok (.bipush 127, 2) := by decide +kernel
theorem d_Md_add_69 : decode prog_14_method_54_code 69 = .ok (.if_icmp .ge 7, 3) := by decide +kernel
theorem d_Md_add_72 : decode prog_14_method_54_code 72 = .ok (.iconst 1, 1) := by decide +kernel
theorem d_Md_add_73 : decode prog_14_method_54_code 73 = .ok (.goto 4, 3) := by decide +kernel
theorem d_Md_add_76 : decode prog_14_method_54_code 76 = .ok (.iconst 0, 1) := by decide +kernel
theorem d_Md_add_77 : decode prog_14_method_54_code 77 = .ok (.istore_n 3, 1) := by decide +kernel
theorem d_Md_add_78 : decode prog_14_method_54_code 78 = .ok (.iinc 4 1, 3) := by decide +kernel
theorem d_Md_add_81 : decode prog_14_method_54_code 81 = .ok (.goto (-46), 3) := by decide +kernel
theorem d_Md_add_84 : decode prog_14_method_54_code 84 = .ok (.aload_n 0, 1) := by decide +kernel
theorem d_Md_add_85 : decode prog_14_method_54_code 85 = .ok (.iconst 2, 1) := by decide +kernel
theorem d_Md_add_86 : decode prog_14_method_54_code 86 = .ok (.iload_n 3, 1) := by decide +kernel
theorem d_Md_add_87 : decode prog_14_method_54_code 87 = .ok (.ifCond .ne 7, 3) := by decide +kernel
theorem d_Md_add_90 : decode prog_14_method_54_code 90 = .ok (.iconst 1, 1) := by decide +kernel
theorem d_Md_add_91 : decode prog_14_method_54_code 91 = .ok (.goto 4, 3) := by decide +kernel
theorem d_Md_add_94 : decode prog_14_method_54_code 94 = .ok (.iconst 0, 1) := by decide +kernel
theorem d_Md_add_95 : decode prog_14_method_54_code 95 = .ok (.invokevirtual 278, 3) := by decide +kernel
theorem d_Md_add_98 : decode prog_14_method_54_code 98 = .ok (.ifCond .eq 5, 3) := by decide +kernel
theorem d_Md_add_101 : decode prog_14_method_54_code 101 = .ok (.iconst 0, 1) := by decide +kernel
theorem d_Md_add_102 : decode prog_14_method_54_code 102 = .ok (.ireturn, 1) := by decide +kernel
theorem d_Md_add_103 : decode prog_14_method_54_code 103 = .ok (.aload_n 0, 1) := by decide +kernel
theorem d_Md_add_104 : decode prog_14_method_54_code 104 = .ok (.invokevirtual 433, 3) := by decide +kernel
theorem d_Md_add_107 : decode prog_14_method_54_code 107 = .ok (.aload_n 0, 1) := by decide +kernel
theorem d_Md_add_108 : decode prog_14_method_54_code 108 = .ok (.iconst 1, 1) := by decide +kernel
theorem d_Md_add_109 : decode prog_14_method_54_code 109 = .ok (.invokevirtual 436, 3) := by decide +kernel
theorem d_Md_add_112 : decode prog_14_method_54_code 112 = .ok (.aload_n 0, 1) := by decide +kernel
theorem d_Md_add_113 : decode prog_14_method_54_code 113 = .ok (.iconst 1, 1) := by decide +kernel
theorem d_Md_add_114 : decode prog_14_method_54_code 114 = .ok (.iconst 0, 1) := by decide +kernel
theorem d_Md_add_115 : decode prog_14_method_54_code 115 = .ok (.invokevirtual 424, 3) := by decide +kernel
theorem d_Md_add_118 : decode prog_14_method_54_code 118 = .ok (.aload_n 0, 1) := by decide +kernel
theorem d_Md_add_119 : decode prog_14_method_54_code 119 = .ok (.iconst 4, 1) := by decide +kernel
theorem d_Md_add_120 : decode prog_14_method_54_code 120 = .ok (.iload_n 2, 1) := by decide +kernel
theorem d_Md_add_121 : decode prog_14_method_54_code 121 = .ok (.invokevirtual 424, 3) := by decide +kernel
theorem d_Md_add_124 : decode prog_14_method_54_code 124 = .ok (.aload_n 0, 1) := by decide +kernel
theorem d_Md_add_125 : decode prog_14_method_54_code 125 = .ok (.invokevirtual 439, 3) := by decide +kernel
theorem d_Md_add_128 : decode prog_14_method_54_code 128 = .ok (.aload_n 0, 1) := by decide +kernel
theorem d_Md_add_129 : decode prog_14_method_54_code 129 = .ok (.iload_n 1, 1) := by decide +kernel
theorem d_Md_add_130 : decode prog_14_method_54_code 130 = .ok (.iconst 3, 1) := by decide +kernel
theorem d_Md_add_131 : decode prog_14_method_54_code 131 = .ok (.invokevirtual 442, 3) := by decide +kernel
theorem d_Md_add_134 : decode prog_14_method_54_code 134 = .ok (.ireturn, 1) := by decide +kernel
def y_Md_list : MethodName := ⟨"PatchStoreModel", "list", "(I)I"⟩
abbrev c_Md_list : Cond := (Jvm.Cond.code ({ cls := "PatchStoreModel", name := "list", desc := "(I)I" } : Jvm.MethodName) prog_14_method_38_code (5 : Nat) (Option.some Jvm.ClassFile.FieldType.int))
abbrev ws_Md_list : List Cond := c_Md_list :: xg_1
theorem d_Md_list_0 : decode prog_14_method_38_code 0 = .ok (.aload_n 0, 1) := by decide +kernel
theorem d_Md_list_1 : decode prog_14_method_38_code 1 = .ok (.getfield 190, 3) := by decide +kernel
theorem d_Md_list_4 : decode prog_14_method_38_code 4 = .ok (.iload_n 1, 1) := by decide +kernel
theorem d_Md_list_5 : decode prog_14_method_38_code 5 = .ok (.iaload, 1) := by decide +kernel
theorem d_Md_list_6 : decode prog_14_method_38_code 6 = .ok (.aload_n 0, 1) := by decide +kernel
theorem d_Md_list_7 : decode prog_14_method_38_code 7 = .ok (.getfield 125, 3) := by decide +kernel
theorem d_Md_list_10 : decode prog_14_method_38_code 10 = .ok (.if_icmp .ne 10, 3) := by decide +kernel
theorem d_Md_list_13 : decode prog_14_method_38_code 13 = .ok (.aload_n 0, 1) := by decide +kernel
theorem d_Md_list_14 : decode prog_14_method_38_code 14 = .ok (.getfield 187, 3) := by decide +kernel
theorem d_Md_list_17 : decode prog_14_method_38_code 17 = .ok (.iload_n 1, 1) := by decide +kernel
theorem d_Md_list_18 : decode prog_14_method_38_code 18 = .ok (.iaload, 1) := by decide +kernel
theorem d_Md_list_19 : decode prog_14_method_38_code 19 = .ok (.ireturn, 1) := by decide +kernel
theorem d_Md_list_20 : decode prog_14_method_38_code 20 = .ok (.iconst 0, 1) := by decide +kernel
theorem d_Md_list_21 : decode prog_14_method_38_code 21 = .ok (.istore_n 2, 1) := by decide +kernel
theorem d_Md_list_22 : decode prog_14_method_38_code 22 = .ok (.iconst 0, 1) := by decide +kernel
theorem d_Md_list_23 : decode prog_14_method_38_code 23 = .ok (.istore_n 3, 1) := by decide +kernel
theorem d_Md_list_24 : decode prog_14_method_38_code 24 = .ok (.iload_n 3, 1) := by decide +kernel
theorem d_Md_list_25 : decode prog_14_method_38_code 25 = .ok (.aload_n 0, 1) := by decide +kernel
theorem d_Md_list_26 : decode prog_14_method_38_code 26 = .ok (.getfield 117, 3) := by decide +kernel
theorem d_Md_list_29 : decode prog_14_method_38_code 29 = .ok (.if_icmp .ge 125, 3) := by decide +kernel
theorem d_Md_list_32 : decode prog_14_method_38_code 32 = .ok (.aload_n 0, 1) := by decide +kernel
theorem d_Md_list_33 : decode prog_14_method_38_code 33 = .ok (.getfield 122, 3) := by decide +kernel
theorem d_Md_list_36 : decode prog_14_method_38_code 36 = .ok (.iload_n 1, 1) := by decide +kernel
theorem d_Md_list_37 : decode prog_14_method_38_code 37 = .ok (.aaload, 1) := by decide +kernel
theorem d_Md_list_38 : decode prog_14_method_38_code 38 = .ok (.aload_n 0, 1) := by decide +kernel
theorem d_Md_list_39 : decode prog_14_method_38_code 39 = .ok (.getfield 59, 3) := by decide +kernel
theorem d_Md_list_42 : decode prog_14_method_38_code 42 = .ok (.aload_n 0, 1) := by decide +kernel
theorem d_Md_list_43 : decode prog_14_method_38_code 43 = .ok (.getfield 111, 3) := by decide +kernel
theorem d_Md_list_46 : decode prog_14_method_38_code 46 = .ok (.iload_n 3, 1) := by decide +kernel
theorem d_Md_list_47 : decode prog_14_method_38_code 47 = .ok (.iaload, 1) := by decide +kernel
theorem d_Md_list_48 : decode prog_14_method_38_code 48 = .ok (.iaload, 1) := by decide +kernel
theorem d_Md_list_49 : decode prog_14_method_38_code 49 = .ok (.baload, 1) := by decide +kernel
theorem d_Md_list_50 : decode prog_14_method_38_code 50 = .ok (.ifCond .ne 6, 3) := by decide +kernel
theorem d_Md_list_53 : decode prog_14_method_38_code 53 = .ok (.goto 95, 3) := by decide +kernel
theorem d_Md_list_56 : decode prog_14_method_38_code 56 = .ok (.aload_n 0, 1) := by decide +kernel
theorem d_Md_list_57 : decode prog_14_method_38_code 57 = .ok (.iload_n 1, 1) := by decide +kernel
theorem d_Md_list_58 : decode prog_14_method_38_code 58 = .ok (.iload_n 3, 1) := by decide +kernel
theorem d_Md_list_59 : decode prog_14_method_38_code 59 = .ok (.invokevirtual 391, 3) := by decide +kernel
theorem d_Md_list_62 : decode prog_14_method_38_code 62 = .ok (.aload_n 0, 1) := by decide +kernel
theorem d_Md_list_63 : decode prog_14_method_38_code 63 = .ok (.getfield 179, 3) := by decide +kernel
theorem d_Md_list_66 : decode prog_14_method_38_code 66 = .ok (.ifCond .ne 6, 3) := by decide +kernel
theorem d_Md_list_69 : decode prog_14_method_38_code 69 = .ok (.goto 79, 3) := by decide +kernel
theorem d_Md_list_72 : decode prog_14_method_38_code 72 = .ok (.iload_n 2, 1) := by decide +kernel
theorem d_Md_list_73 : decode prog_14_method_38_code 73 = .ok (.iinc 2 1, 3) := by decide +kernel
theorem d_Md_list_76 : decode prog_14_method_38_code 76 = .ok (.istore 4, 2) := by decide +kernel
theorem d_Md_list_78 : decode prog_14_method_38_code 78 = .ok (.iload 4, 2) := by decide +kernel
theorem d_Md_list_80 : decode prog_14_method_38_code 80 = .ok (.ifCond .le 58, 3) := by decide +kernel
theorem d_Md_list_83 : decode prog_14_method_38_code 83 = .ok (.aload_n 0, 1) := by decide +kernel
theorem d_Md_list_84 : decode prog_14_method_38_code 84 = .ok (.aload_n 0, 1) := by decide +kernel
theorem d_Md_list_85 : decode prog_14_method_38_code 85 = .ok (.getfield 111, 3) := by decide +kernel
theorem d_Md_list_88 : decode prog_14_method_38_code 88 = .ok (.aload_n 0, 1) := by decide +kernel
theorem d_Md_list_89 : decode prog_14_method_38_code 89 = .ok (.getfield 184, 3) := by decide +kernel
theorem d_Md_list_92 : decode prog_14_method_38_code 92 = .ok (.iload_n 1, 1) := by decide +kernel
theorem d_Md_list_93 : decode prog_14_method_38_code 93 = .ok (.aaload, 1) := by decide +kernel
theorem d_Md_list_94 : decode prog_14_method_38_code 94 = .ok (.iload 4, 2) := by decide +kernel
theorem d_Md_list_96 : decode prog_14_method_38_code 96 = .ok (.iconst 1, 1) := by decide +kernel
theorem d_Md_list_97 : decode prog_14_method_38_code 97 = .ok (.isub, 1) := by decide +kernel
theorem d_Md_list_98 : decode prog_14_method_38_code 98 = .ok (.iaload, 1) := by decide +kernel
theorem d_Md_list_99 : decode prog_14_method_38_code 99 = .ok (.iaload, 1) := by decide +kernel
theorem d_Md_list_100 : decode prog_14_method_38_code 100 = .ok (.aload_n 0, 1) := by decide +kernel
theorem d_Md_list_101 : decode prog_14_method_38_code 101 = .ok (.getfield 111, 3) := by decide +kernel
theorem d_Md_list_104 : decode prog_14_method_38_code 104 = .ok (.iload_n 3, 1) := by decide +kernel
theorem d_Md_list_105 : decode prog_14_method_38_code 105 = .ok (.iaload, 1) := by decide +kernel
theorem d_Md_list_106 : decode prog_14_method_38_code 106 = .ok (.invokevirtual 388, 3) := by decide +kernel
theorem d_Md_list_109 : decode prog_14_method_38_code 109 = .ok (.ifCond .le 29, 3) := by decide +kernel
theorem d_Md_list_112 : decode prog_14_method_38_code 112 = .ok (.aload_n 0, 1) := by decide +kernel
theorem d_Md_list_113 : decode prog_14_method_38_code 113 = .ok (.getfield 184, 3) := by decide +kernel
theorem d_Md_list_116 : decode prog_14_method_38_code 116 = .ok (.iload_n 1, 1) := by decide +kernel
theorem d_Md_list_117 : decode prog_14_method_38_code 117 = .ok (.aaload, 1) := by decide +kernel
theorem d_Md_list_118 : decode prog_14_method_38_code 118 = .ok (.iload 4, 2) := by decide +kernel
theorem d_Md_list_120 : decode prog_14_method_38_code 120 = .ok (.aload_n 0, 1) := by decide +kernel
theorem d_Md_list_121 : decode prog_14_method_38_code 121 = .ok (.getfield 184, 3) := by decide +kernel
theorem d_Md_list_124 : decode prog_14_method_38_code 124 = .ok (.iload_n 1, 1) := by decide +kernel
theorem d_Md_list_125 : decode prog_14_method_38_code 125 = .ok (.aaload, 1) := by decide +kernel
theorem d_Md_list_126 : decode prog_14_method_38_code 126 = .ok (.iload 4, 2) := by decide +kernel
theorem d_Md_list_128 : decode prog_14_method_38_code 128 = .ok (.iconst 1, 1) := by decide +kernel
theorem d_Md_list_129 : decode prog_14_method_38_code 129 = .ok (.isub, 1) := by decide +kernel
theorem d_Md_list_130 : decode prog_14_method_38_code 130 = .ok (.iaload, 1) := by decide +kernel
theorem d_Md_list_131 : decode prog_14_method_38_code 131 = .ok (.iastore, 1) := by decide +kernel
theorem d_Md_list_132 : decode prog_14_method_38_code 132 = .ok (.iinc 4 (-1), 3) := by decide +kernel
theorem d_Md_list_135 : decode prog_14_method_38_code 135 = .ok (.goto (-57), 3) := by decide +kernel
theorem d_Md_list_138 : decode prog_14_method_38_code 138 = .ok (.aload_n 0, 1) := by decide +kernel
theorem d_Md_list_139 : decode prog_14_method_38_code 139 = .ok (.getfield 184, 3) := by decide +kernel
theorem d_Md_list_142 : decode prog_14_method_38_code 142 = .ok (.iload_n 1, 1) := by decide +kernel
theorem d_Md_list_143 : decode prog_14_method_38_code 143 = .ok (.aaload, 1) := by decide +kernel
theorem d_Md_list_144 : decode prog_14_method_38_code 144 = .ok (.iload 4, 2) := by decide +kernel
theorem d_Md_list_146 : decode prog_14_method_38_code 146 = .ok (.iload_n 3, 1) := by decide +kernel
theorem d_Md_list_147 : decode prog_14_method_38_code 147 = .ok (.iastore, 1) := by decide +kernel
theorem d_Md_list_148 : decode prog_14_method_38_code 148 = .ok (.iinc 3 1, 3) := by decide +kernel
theorem d_Md_list_151 : decode prog_14_method_38_code 151 = .ok (.goto (-127), 3) := by decide +kernel
theorem d_Md_list_154 : decode prog_14_method_38_code 154 = .ok (.aload_n 0, 1) := by decide +kernel
theorem d_Md_list_155 : decode prog_14_method_38_code 155 = .ok (.getfield 187, 3) := by decide +kernel
theorem d_Md_list_158 : decode prog_14_method_38_code 158 = .ok (.iload_n 1, 1) := by decide +kernel
theorem d_Md_list_159 : decode prog_14_method_38_code 159 = .ok (.iload_n 2, 1) := by decide +kernel
theorem d_Md_list_160 : decode prog_14_method_38_code 160 = .ok (.iastore, 1) := by decide +kernel
theorem d_Md_list_161 : decode prog_14_method_38_code 161 = .ok (.aload_n 0, 1) := by decide +kernel
theorem d_Md_list_162 : decode prog_14_method_38_code 162 = .ok (.getfield 190, 3) := by decide +kernel
theorem d_Md_list_165 : decode prog_14_method_38_code 165 = .ok (.iload_n 1, 1) := by decide +kernel
theorem d_Md_list_166 : decode prog_14_method_38_code 166 = .ok (.aload_n 0, 1) := by decide +kernel
theorem d_Md_list_167 : decode prog_14_method_38_code 167 = .ok (.getfield 125, 3) := by decide +kernel
theorem d_Md_list_170 : decode prog_14_method_38_code 170 = .ok (.iastore, 1) := by decide +kernel
theorem d_Md_list_171 : decode prog_14_method_38_code 171 = .ok (.iload_n 2, 1) := by decide +kernel
theorem d_Md_list_172 : decode prog_14_method_38_code 172 = .ok (.ireturn, 1) := by decide +kernel
def y_Md_fileAt : MethodName := ⟨"PatchStoreModel", "fileAt", "(II)I"⟩
abbrev c_Md_fileAt : Cond := (Jvm.Cond.code ({ cls := "PatchStoreModel", name := "fileAt", desc := "(II)I" } : Jvm.MethodName) prog_14_method_39_code (3 : Nat) (Option.some Jvm.ClassFile.FieldType.int))
abbrev ws_Md_fileAt : List Cond := c_Md_fileAt :: xg_1
theorem d_Md_fileAt_0 : decode prog_14_method_39_code 0 = .ok (.iload_n 2, 1) := by decide +kernel
theorem d_Md_fileAt_1 : decode prog_14_method_39_code 1 = .ok (.ifCond .lt 12, 3) := by decide +kernel
theorem d_Md_fileAt_4 : decode prog_14_method_39_code 4 = .ok (.iload_n 2, 1) := by decide +kernel
theorem d_Md_fileAt_5 : decode prog_14_method_39_code 5 = .ok (.aload_n 0, 1) := by decide +kernel
theorem d_Md_fileAt_6 : decode prog_14_method_39_code 6 = .ok (.iload_n 1, 1) := by decide +kernel
theorem d_Md_fileAt_7 : decode prog_14_method_39_code 7 = .ok (.invokevirtual 394, 3) := by decide +kernel
theorem d_Md_fileAt_10 : decode prog_14_method_39_code 10 = .ok (.if_icmp .lt 7, 3) := by decide +kernel
theorem d_Md_fileAt_13 : decode prog_14_method_39_code 13 = .ok (.iconst (-1), 1) := by decide +kernel
theorem d_Md_fileAt_14 : decode prog_14_method_39_code 14 = .ok (.goto 11, 3) := by decide +kernel
theorem d_Md_fileAt_17 : decode prog_14_method_39_code 17 = .ok (.aload_n 0, 1) := by decide +kernel
theorem d_Md_fileAt_18 : decode prog_14_method_39_code 18 = .ok (.getfield 184, 3) := by decide +kernel
theorem d_Md_fileAt_21 : decode prog_14_method_39_code 21 = .ok (.iload_n 1, 1) := by decide +kernel
theorem d_Md_fileAt_22 : decode prog_14_method_39_code 22 = .ok (.aaload, 1) := by decide +kernel
theorem d_Md_fileAt_23 : decode prog_14_method_39_code 23 = .ok (.iload_n 2, 1) := by decide +kernel
theorem d_Md_fileAt_24 : decode prog_14_method_39_code 24 = .ok (.iaload, 1) := by decide +kernel
theorem d_Md_fileAt_25 : decode prog_14_method_39_code 25 = .ok (.ireturn, 1) := by decide +kernel
def y_Md_call : MethodName := ⟨"PatchStoreModel", "call", "(II)I"⟩
abbrev c_Md_call : Cond := (Jvm.Cond.code ({ cls := "PatchStoreModel", name := "call", desc := "(II)I" } : Jvm.MethodName) prog_14_method_57_code (6 : Nat) (Option.some Jvm.ClassFile.FieldType.int))
abbrev ws_Md_call : List Cond := c_Md_call :: xg_1
theorem d_Md_call_0 : decode prog_14_method_57_code 0 = .ok (.aload_n 0, 1) := by decide +kernel
theorem d_Md_call_1 : decode prog_14_method_57_code 1 = .ok (.iload_n 1, 1) := by decide +kernel
theorem d_Md_call_2 : decode prog_14_method_57_code 2 = .ok (.invokevirtual 430, 3) := by decide +kernel
theorem d_Md_call_5 : decode prog_14_method_57_code 5 = .ok (.ifCond .eq 5, 3) := by decide +kernel
theorem d_Md_call_8 : decode prog_14_method_57_code 8 = .ok (.iconst 0, 1) := by decide +kernel
theorem d_Md_call_9 : decode prog_14_method_57_code 9 = .ok (.ireturn, 1) := by decide +kernel
theorem d_Md_call_10 : decode prog_14_method_57_code 10 = .ok (.aload_n 0, 1) := by decide +kernel
theorem d_Md_call_11 : decode prog_14_method_57_code 11 = .ok (.iload_n 1, 1) := by decide +kernel
theorem d_Md_call_12 : decode prog_14_method_57_code 12 = .ok (.iload_n 2, 1) := by decide +kernel
theorem d_Md_call_13 : decode prog_14_method_57_code 13 = .ok (.invokevirtual 448, 3) := by decide +kernel
theorem d_Md_call_16 : decode prog_14_method_57_code 16 = .ok (.istore_n 3, 1) := by decide +kernel
theorem d_Md_call_17 : decode prog_14_method_57_code 17 = .ok (.aload_n 0, 1) := by decide +kernel
theorem d_Md_call_18 : decode prog_14_method_57_code 18 = .ok (.iconst 1, 1) := by decide +kernel
theorem d_Md_call_19 : decode prog_14_method_57_code 19 = .ok (.iload_n 3, 1) := by decide +kernel
theorem d_Md_call_20 : decode prog_14_method_57_code 20 = .ok (.ifCond .ge 7, 3) := by decide +kernel
theorem d_Md_call_23 : decode prog_14_method_57_code 23 = .ok (.iconst 1, 1) := by decide +kernel
theorem d_Md_call_24 : decode prog_14_method_57_code 24 = .ok (.goto 4, 3) := by decide +kernel
theorem d_Md_call_27 : decode prog_14_method_57_code 27 = .ok (.iconst 0, 1) := by decide +kernel
theorem d_Md_call_28 : decode prog_14_method_57_code 28 = .ok (.invokevirtual 278, 3) := by decide +kernel
theorem d_Md_call_31 : decode prog_14_method_57_code 31 = .ok (.ifCond .eq 5, 3) := by decide +kernel
theorem d_Md_call_34 : decode prog_14_method_57_code 34 = .ok (.iconst 0, 1) := by decide +kernel
theorem d_Md_call_35 : decode prog_14_method_57_code 35 = .ok (.ireturn, 1) := by decide +kernel
theorem d_Md_call_36 : decode prog_14_method_57_code 36 = .ok (.aload_n 0, 1) := by decide +kernel
theorem d_Md_call_37 : decode prog_14_method_57_code 37 = .ok (.getfield 14, 3) := by decide +kernel
theorem d_Md_call_40 : decode prog_14_method_57_code 40 = .ok (.bipush 65, 2) := by decide +kernel
theorem d_Md_call_42 : decode prog_14_method_57_code 42 = .ok (.if_icmp .ge 7, 3) := by decide +kernel
theorem d_Md_call_45 : decode prog_14_method_57_code 45 = .ok (.iconst 1, 1) := by decide +kernel
theorem d_Md_call_46 : decode prog_14_method_57_code 46 = .ok (.goto 4, 3) := by decide +kernel
theorem d_Md_call_49 : decode prog_14_method_57_code 49 = .ok (.iconst 0, 1) := by decide +kernel
theorem d_Md_call_50 : decode prog_14_method_57_code 50 = .ok (.istore 4, 2) := by decide +kernel
theorem d_Md_call_52 : decode prog_14_method_57_code 52 = .ok (.iconst 0, 1) := by decide +kernel
theorem d_Md_call_53 : decode prog_14_method_57_code 53 = .ok (.istore 5, 2) := by decide +kernel
theorem d_Md_call_55 : decode prog_14_method_57_code 55 = .ok (.iload 5, 2) := by decide +kernel
theorem d_Md_call_57 : decode prog_14_method_57_code 57 = .ok (.aload_n 0, 1) := by decide +kernel
theorem d_Md_call_58 : decode prog_14_method_57_code 58 = .ok (.getfield 14, 3) := by decide +kernel
theorem d_Md_call_61 : decode prog_14_method_57_code 61 = .ok (.if_icmp .ge 45, 3) := by decide +kernel
theorem d_Md_call_64 : decode prog_14_method_57_code 64 = .ok (.iload 4, 2) := by decide +kernel
theorem d_Md_call_66 : decode prog_14_method_57_code 66 = .ok (.ifCond .eq 40, 3) := by decide +kernel
theorem d_Md_call_69 : decode prog_14_method_57_code 69 = .ok (.aload_n 0, 1) := by decide +kernel
theorem d_Md_call_70 : decode prog_14_method_57_code 70 = .ok (.getfield 8, 3) := by decide +kernel
theorem d_Md_call_73 : decode prog_14_method_57_code 73 = .ok (.iload 5, 2) := by decide +kernel
theorem d_Md_call_75 : decode prog_14_method_57_code 75 = .ok (.baload, 1) := by decide +kernel
theorem d_Md_call_76 : decode prog_14_method_57_code 76 = .ok (.bipush 32, 2) := by decide +kernel
theorem d_Md_call_78 : decode prog_14_method_57_code 78 = .ok (.if_icmp .le 19, 3) := by decide +kernel
theorem d_Md_call_81 : decode prog_14_method_57_code 81 = .ok (.aload_n 0, 1) := by decide +kernel
theorem d_Md_call_82 : decode prog_14_method_57_code 82 = .ok (.getfield 8, 3) := by decide +kernel
theorem d_Md_call_85 : decode prog_14_method_57_code 85 = .ok (.iload 5, 2) := by decide +kernel
theorem d_Md_call_87 : decode prog_14_method_57_code 87 = .ok (.baload, 1) := by decide +kernel
theorem d_Md_call_88 : decode prog_14_method_57_code 88 = .ok (.bipush 127, 2) := by decide +kernel
theorem d_Md_call_90 : decode prog_14_method_57_code 90 = .ok (.if_icmp .ge 7, 3) := by decide +kernel
theorem d_Md_call_93 : decode prog_14_method_57_code 93 = .ok (.iconst 1, 1) := by decide +kernel
theorem d_Md_call_94 : decode prog_14_method_57_code 94 = .ok (.goto 4, 3) := by decide +kernel
theorem d_Md_call_97 : decode prog_14_method_57_code 97 = .ok (.iconst 0, 1) := by decide +kernel
theorem d_Md_call_98 : decode prog_14_method_57_code 98 = .ok (.istore 4, 2) := by decide +kernel
theorem d_Md_call_100 : decode prog_14_method_57_code 100 = .ok (.iinc 5 1, 3) := by decide +kernel
theorem d_Md_call_103 : decode prog_14_method_57_code 103 = .ok (.goto (-48), 3) := by decide +kernel
theorem d_Md_call_106 : decode prog_14_method_57_code 106 = .ok (.aload_n 0, 1) := by decide +kernel
theorem d_Md_call_107 : decode prog_14_method_57_code 107 = .ok (.iconst 2, 1) := by decide +kernel
theorem d_Md_call_108 : decode prog_14_method_57_code 108 = .ok (.iload 4, 2) := by decide +kernel
theorem d_Md_call_110 : decode prog_14_method_57_code 110 = .ok (.ifCond .ne 7, 3) := by decide +kernel
theorem d_Md_call_113 : decode prog_14_method_57_code 113 = .ok (.iconst 1, 1) := by decide +kernel
theorem d_Md_call_114 : decode prog_14_method_57_code 114 = .ok (.goto 4, 3) := by decide +kernel
theorem d_Md_call_117 : decode prog_14_method_57_code 117 = .ok (.iconst 0, 1) := by decide +kernel
theorem d_Md_call_118 : decode prog_14_method_57_code 118 = .ok (.invokevirtual 278, 3) := by decide +kernel
theorem d_Md_call_121 : decode prog_14_method_57_code 121 = .ok (.ifCond .eq 5, 3) := by decide +kernel
theorem d_Md_call_124 : decode prog_14_method_57_code 124 = .ok (.iconst 0, 1) := by decide +kernel
theorem d_Md_call_125 : decode prog_14_method_57_code 125 = .ok (.ireturn, 1) := by decide +kernel
theorem d_Md_call_126 : decode prog_14_method_57_code 126 = .ok (.aload_n 0, 1) := by decide +kernel
theorem d_Md_call_127 : decode prog_14_method_57_code 127 = .ok (.iload_n 1, 1) := by decide +kernel
theorem d_Md_call_128 : decode prog_14_method_57_code 128 = .ok (.iload_n 3, 1) := by decide +kernel
theorem d_Md_call_129 : decode prog_14_method_57_code 129 = .ok (.invokevirtual 391, 3) := by decide +kernel
theorem d_Md_call_132 : decode prog_14_method_57_code 132 = .ok (.aload_n 0, 1) := by decide +kernel
theorem d_Md_call_133 : decode prog_14_method_57_code 133 = .ok (.iconst 3, 1) := by decide +kernel
theorem d_Md_call_134 : decode prog_14_method_57_code 134 = .ok (.aload_n 0, 1) := by decide +kernel
theorem d_Md_call_135 : decode prog_14_method_57_code 135 = .ok (.getfield 179, 3) := by decide +kernel
theorem d_Md_call_138 : decode prog_14_method_57_code 138 = .ok (.sipush 255, 3) := by decide +kernel
theorem d_Md_call_141 : decode prog_14_method_57_code 141 = .ok (.if_icmp .le 7, 3) := by decide +kernel
theorem d_Md_call_144 : decode prog_14_method_57_code 144 = .ok (.iconst 1, 1) := by decide +kernel
theorem d_Md_call_145 : decode prog_14_method_57_code 145 = .ok (.goto 4, 3) := by decide +kernel
theorem d_Md_call_148 : decode prog_14_method_57_code 148 = .ok (.iconst 0, 1) := by decide +kernel
theorem d_Md_call_149 : decode prog_14_method_57_code 149 = .ok (.invokevirtual 278, 3) := by decide +kernel
theorem d_Md_call_152 : decode prog_14_method_57_code 152 = .ok (.ifCond .eq 5, 3) := by decide +kernel
theorem d_Md_call_155 : decode prog_14_method_57_code 155 = .ok (.iconst 0, 1) := by decide +kernel
theorem d_Md_call_156 : decode prog_14_method_57_code 156 = .ok (.ireturn, 1) := by decide +kernel
theorem d_Md_call_157 : decode prog_14_method_57_code 157 = .ok (.aload_n 0, 1) := by decide +kernel
theorem d_Md_call_158 : decode prog_14_method_57_code 158 = .ok (.invokevirtual 433, 3) := by decide +kernel
theorem d_Md_call_161 : decode prog_14_method_57_code 161 = .ok (.aload_n 0, 1) := by decide +kernel
theorem d_Md_call_162 : decode prog_14_method_57_code 162 = .ok (.aload_n 0, 1) := by decide +kernel
theorem d_Md_call_163 : decode prog_14_method_57_code 163 = .ok (.getfield 244, 3) := by decide +kernel
theorem d_Md_call_166 : decode prog_14_method_57_code 166 = .ok (.aload_n 0, 1) := by decide +kernel
theorem d_Md_call_167 : decode prog_14_method_57_code 167 = .ok (.getfield 59, 3) := by decide +kernel
theorem d_Md_call_170 : decode prog_14_method_57_code 170 = .ok (.aload_n 0, 1) := by decide +kernel
theorem d_Md_call_171 : decode prog_14_method_57_code 171 = .ok (.getfield 111, 3) := by decide +kernel
theorem d_Md_call_174 : decode prog_14_method_57_code 174 = .ok (.iload_n 3, 1) := by decide +kernel
theorem d_Md_call_175 : decode prog_14_method_57_code 175 = .ok (.iaload, 1) := by decide +kernel
theorem d_Md_call_176 : decode prog_14_method_57_code 176 = .ok (.iaload, 1) := by decide +kernel
theorem d_Md_call_177 : decode prog_14_method_57_code 177 = .ok (.invokevirtual 451, 3) := by decide +kernel
theorem d_Md_call_180 : decode prog_14_method_57_code 180 = .ok (.iconst 0, 1) := by decide +kernel
theorem d_Md_call_181 : decode prog_14_method_57_code 181 = .ok (.istore 5, 2) := by decide +kernel
theorem d_Md_call_183 : decode prog_14_method_57_code 183 = .ok (.iload 5, 2) := by decide +kernel
theorem d_Md_call_185 : decode prog_14_method_57_code 185 = .ok (.aload_n 0, 1) := by decide +kernel
theorem d_Md_call_186 : decode prog_14_method_57_code 186 = .ok (.getfield 179, 3) := by decide +kernel
theorem d_Md_call_189 : decode prog_14_method_57_code 189 = .ok (.if_icmp .ge 29, 3) := by decide +kernel
theorem d_Md_call_192 : decode prog_14_method_57_code 192 = .ok (.aload_n 0, 1) := by decide +kernel
theorem d_Md_call_193 : decode prog_14_method_57_code 193 = .ok (.aload_n 0, 1) := by decide +kernel
theorem d_Md_call_194 : decode prog_14_method_57_code 194 = .ok (.getfield 244, 3) := by decide +kernel
theorem d_Md_call_197 : decode prog_14_method_57_code 197 = .ok (.aload_n 0, 1) := by decide +kernel
theorem d_Md_call_198 : decode prog_14_method_57_code 198 = .ok (.getfield 59, 3) := by decide +kernel
theorem d_Md_call_201 : decode prog_14_method_57_code 201 = .ok (.aload_n 0, 1) := by decide +kernel
theorem d_Md_call_202 : decode prog_14_method_57_code 202 = .ok (.getfield 176, 3) := by decide +kernel
theorem d_Md_call_205 : decode prog_14_method_57_code 205 = .ok (.iload 5, 2) := by decide +kernel
theorem d_Md_call_207 : decode prog_14_method_57_code 207 = .ok (.iaload, 1) := by decide +kernel
theorem d_Md_call_208 : decode prog_14_method_57_code 208 = .ok (.iaload, 1) := by decide +kernel
theorem d_Md_call_209 : decode prog_14_method_57_code 209 = .ok (.invokevirtual 451, 3) := by decide +kernel
theorem d_Md_call_212 : decode prog_14_method_57_code 212 = .ok (.iinc 5 1, 3) := by decide +kernel
theorem d_Md_call_215 : decode prog_14_method_57_code 215 = .ok (.goto (-32), 3) := by decide +kernel
theorem d_Md_call_218 : decode prog_14_method_57_code 218 = .ok (.aload_n 0, 1) := by decide +kernel
theorem d_Md_call_219 : decode prog_14_method_57_code 219 = .ok (.iconst 1, 1) := by decide +kernel
theorem d_Md_call_220 : decode prog_14_method_57_code 220 = .ok (.invokevirtual 436, 3) := by decide +kernel
theorem d_Md_call_223 : decode prog_14_method_57_code 223 = .ok (.aload_n 0, 1) := by decide +kernel
theorem d_Md_call_224 : decode prog_14_method_57_code 224 = .ok (.iconst 1, 1) := by decide +kernel
theorem d_Md_call_225 : decode prog_14_method_57_code 225 = .ok (.iconst 1, 1) := by decide +kernel
theorem d_Md_call_226 : decode prog_14_method_57_code 226 = .ok (.invokevirtual 424, 3) := by decide +kernel
theorem d_Md_call_229 : decode prog_14_method_57_code 229 = .ok (.aload_n 0, 1) := by decide +kernel
theorem d_Md_call_230 : decode prog_14_method_57_code 230 = .ok (.aload_n 0, 1) := by decide +kernel
theorem d_Md_call_231 : decode prog_14_method_57_code 231 = .ok (.getfield 111, 3) := by decide +kernel
theorem d_Md_call_234 : decode prog_14_method_57_code 234 = .ok (.iload_n 3, 1) := by decide +kernel
theorem d_Md_call_235 : decode prog_14_method_57_code 235 = .ok (.iaload, 1) := by decide +kernel
theorem d_Md_call_236 : decode prog_14_method_57_code 236 = .ok (.invokevirtual 427, 3) := by decide +kernel
theorem d_Md_call_239 : decode prog_14_method_57_code 239 = .ok (.aload_n 0, 1) := by decide +kernel
theorem d_Md_call_240 : decode prog_14_method_57_code 240 = .ok (.iconst 1, 1) := by decide +kernel
theorem d_Md_call_241 : decode prog_14_method_57_code 241 = .ok (.aload_n 0, 1) := by decide +kernel
theorem d_Md_call_242 : decode prog_14_method_57_code 242 = .ok (.getfield 179, 3) := by decide +kernel
theorem d_Md_call_245 : decode prog_14_method_57_code 245 = .ok (.invokevirtual 424, 3) := by decide +kernel
theorem d_Md_call_248 : decode prog_14_method_57_code 248 = .ok (.iconst 0, 1) := by decide +kernel
theorem d_Md_call_249 : decode prog_14_method_57_code 249 = .ok (.istore 5, 2) := by decide +kernel
theorem d_Md_call_251 : decode prog_14_method_57_code 251 = .ok (.iload 5, 2) := by decide +kernel
theorem d_Md_call_253 : decode prog_14_method_57_code 253 = .ok (.aload_n 0, 1) := by decide +kernel
theorem d_Md_call_254 : decode prog_14_method_57_code 254 = .ok (.getfield 179, 3) := by decide +kernel
theorem d_Md_call_257 : decode prog_14_method_57_code 257 = .ok (.if_icmp .ge 20, 3) := by decide +kernel
theorem d_Md_call_260 : decode prog_14_method_57_code 260 = .ok (.aload_n 0, 1) := by decide +kernel
theorem d_Md_call_261 : decode prog_14_method_57_code 261 = .ok (.aload_n 0, 1) := by decide +kernel
theorem d_Md_call_262 : decode prog_14_method_57_code 262 = .ok (.getfield 176, 3) := by decide +kernel
theorem d_Md_call_265 : decode prog_14_method_57_code 265 = .ok (.iload 5, 2) := by decide +kernel
theorem d_Md_call_267 : decode prog_14_method_57_code 267 = .ok (.iaload, 1) := by decide +kernel
theorem d_Md_call_268 : decode prog_14_method_57_code 268 = .ok (.invokevirtual 427, 3) := by decide +kernel
theorem d_Md_call_271 : decode prog_14_method_57_code 271 = .ok (.iinc 5 1, 3) := by decide +kernel
theorem d_Md_call_274 : decode prog_14_method_57_code 274 = .ok (.goto (-23), 3) := by decide +kernel
theorem d_Md_call_277 : decode prog_14_method_57_code 277 = .ok (.aload_n 0, 1) := by decide +kernel
theorem d_Md_call_278 : decode prog_14_method_57_code 278 = .ok (.invokevirtual 439, 3) := by decide +kernel
theorem d_Md_call_281 : decode prog_14_method_57_code 281 = .ok (.aload_n 0, 1) := by decide +kernel
theorem d_Md_call_282 : decode prog_14_method_57_code 282 = .ok (.iload_n 1, 1) := by decide +kernel
theorem d_Md_call_283 : decode prog_14_method_57_code 283 = .ok (.iconst 3, 1) := by decide +kernel
theorem d_Md_call_284 : decode prog_14_method_57_code 284 = .ok (.invokevirtual 442, 3) := by decide +kernel
theorem d_Md_call_287 : decode prog_14_method_57_code 287 = .ok (.ireturn, 1) := by decide +kernel
def y_Md_record : MethodName := ⟨"PatchStoreModel", "record", "(II)I"⟩
abbrev c_Md_record : Cond := (Jvm.Cond.code ({ cls := "PatchStoreModel", name := "record", desc := "(II)I" } : Jvm.MethodName) prog_14_method_62_code (8 : Nat) (Option.some Jvm.ClassFile.FieldType.int))
abbrev ws_Md_record : List Cond := c_Md_record :: xg_1
theorem d_Md_record_0 : decode prog_14_method_62_code 0 = .ok (.aload_n 0, 1) := by decide +kernel
theorem d_Md_record_1 : decode prog_14_method_62_code 1 = .ok (.iload_n 1, 1) := by decide +kernel
theorem d_Md_record_2 : decode prog_14_method_62_code 2 = .ok (.invokevirtual 430, 3) := by decide +kernel
theorem d_Md_record_5 : decode prog_14_method_62_code 5 = .ok (.ifCond .eq 5, 3) := by decide +kernel
theorem d_Md_record_8 : decode prog_14_method_62_code 8 = .ok (.iconst 0, 1) := by decide +kernel
theorem d_Md_record_9 : decode prog_14_method_62_code 9 = .ok (.ireturn, 1) := by decide +kernel
theorem d_Md_record_10 : decode prog_14_method_62_code 10 = .ok (.aload_n 0, 1) := by decide +kernel
theorem d_Md_record_11 : decode prog_14_method_62_code 11 = .ok (.iload_n 1, 1) := by decide +kernel
theorem d_Md_record_12 : decode prog_14_method_62_code 12 = .ok (.iload_n 2, 1) := by decide +kernel
theorem d_Md_record_13 : decode prog_14_method_62_code 13 = .ok (.invokevirtual 448, 3) := by decide +kernel
theorem d_Md_record_16 : decode prog_14_method_62_code 16 = .ok (.istore_n 3, 1) := by decide +kernel
theorem d_Md_record_17 : decode prog_14_method_62_code 17 = .ok (.aload_n 0, 1) := by decide +kernel
theorem d_Md_record_18 : decode prog_14_method_62_code 18 = .ok (.iconst 1, 1) := by decide +kernel
theorem d_Md_record_19 : decode prog_14_method_62_code 19 = .ok (.iload_n 3, 1) := by decide +kernel
theorem d_Md_record_20 : decode prog_14_method_62_code 20 = .ok (.ifCond .ge 7, 3) := by decide +kernel
theorem d_Md_record_23 : decode prog_14_method_62_code 23 = .ok (.iconst 1, 1) := by decide +kernel
theorem d_Md_record_24 : decode prog_14_method_62_code 24 = .ok (.goto 4, 3) := by decide +kernel
theorem d_Md_record_27 : decode prog_14_method_62_code 27 = .ok (.iconst 0, 1) := by decide +kernel
theorem d_Md_record_28 : decode prog_14_method_62_code 28 = .ok (.invokevirtual 278, 3) := by decide +kernel
theorem d_Md_record_31 : decode prog_14_method_62_code 31 = .ok (.ifCond .eq 5, 3) := by decide +kernel
theorem d_Md_record_34 : decode prog_14_method_62_code 34 = .ok (.iconst 0, 1) := by decide +kernel
theorem d_Md_record_35 : decode prog_14_method_62_code 35 = .ok (.ireturn, 1) := by decide +kernel
theorem d_Md_record_36 : decode prog_14_method_62_code 36 = .ok (.aload_n 0, 1) := by decide +kernel
theorem d_Md_record_37 : decode prog_14_method_62_code 37 = .ok (.invokevirtual 465, 3) := by decide +kernel
theorem d_Md_record_40 : decode prog_14_method_62_code 40 = .ok (.istore 4, 2) := by decide +kernel
theorem d_Md_record_42 : decode prog_14_method_62_code 42 = .ok (.aload_n 0, 1) := by decide +kernel
theorem d_Md_record_43 : decode prog_14_method_62_code 43 = .ok (.iload_n 1, 1) := by decide +kernel
theorem d_Md_record_44 : decode prog_14_method_62_code 44 = .ok (.iload_n 3, 1) := by decide +kernel
theorem d_Md_record_45 : decode prog_14_method_62_code 45 = .ok (.invokevirtual 468, 3) := by decide +kernel
theorem d_Md_record_48 : decode prog_14_method_62_code 48 = .ok (.aload_n 0, 1) := by decide +kernel
theorem d_Md_record_49 : decode prog_14_method_62_code 49 = .ok (.iconst 2, 1) := by decide +kernel
theorem d_Md_record_50 : decode prog_14_method_62_code 50 = .ok (.iload 4, 2) := by decide +kernel
theorem d_Md_record_52 : decode prog_14_method_62_code 52 = .ok (.iconst 1, 1) := by decide +kernel
theorem d_Md_record_53 : decode prog_14_method_62_code 53 = .ok (.if_icmp .ne 7, 3) := by decide +kernel
theorem d_Md_record_56 : decode prog_14_method_62_code 56 = .ok (.iconst 1, 1) := by decide +kernel
theorem d_Md_record_57 : decode prog_14_method_62_code 57 = .ok (.goto 4, 3) := by decide +kernel
theorem d_Md_record_60 : decode prog_14_method_62_code 60 = .ok (.iconst 0, 1) := by decide +kernel
theorem d_Md_record_61 : decode prog_14_method_62_code 61 = .ok (.invokevirtual 278, 3) := by decide +kernel
theorem d_Md_record_64 : decode prog_14_method_62_code 64 = .ok (.ifCond .ne 32, 3) := by decide +kernel
theorem d_Md_record_67 : decode prog_14_method_62_code 67 = .ok (.aload_n 0, 1) := by decide +kernel
theorem d_Md_record_68 : decode prog_14_method_62_code 68 = .ok (.iconst 3, 1) := by decide +kernel
theorem d_Md_record_69 : decode prog_14_method_62_code 69 = .ok (.iload 4, 2) := by decide +kernel
theorem d_Md_record_71 : decode prog_14_method_62_code 71 = .ok (.iconst 2, 1) := by decide +kernel
theorem d_Md_record_72 : decode prog_14_method_62_code 72 = .ok (.if_icmp .eq 13, 3) := by decide +kernel
theorem d_Md_record_75 : decode prog_14_method_62_code 75 = .ok (.aload_n 0, 1) := by decide +kernel
theorem d_Md_record_76 : decode prog_14_method_62_code 76 = .ok (.getfield 214, 3) := by decide +kernel
theorem d_Md_record_79 : decode prog_14_method_62_code 79 = .ok (.sipush 200, 3) := by decide +kernel
theorem d_Md_record_82 : decode prog_14_method_62_code 82 = .ok (.if_icmp .le 7, 3) := by decide +kernel
theorem d_Md_record_85 : decode prog_14_method_62_code 85 = .ok (.iconst 1, 1) := by decide +kernel
theorem d_Md_record_86 : decode prog_14_method_62_code 86 = .ok (.goto 4, 3) := by decide +kernel
theorem d_Md_record_89 : decode prog_14_method_62_code 89 = .ok (.iconst 0, 1) := by decide +kernel
theorem d_Md_record_90 : decode prog_14_method_62_code 90 = .ok (.invokevirtual 278, 3) := by decide +kernel
theorem d_Md_record_93 : decode prog_14_method_62_code 93 = .ok (.ifCond .eq 5, 3) := by decide +kernel
theorem d_Md_record_96 : decode prog_14_method_62_code 96 = .ok (.iconst 0, 1) := by decide +kernel
theorem d_Md_record_97 : decode prog_14_method_62_code 97 = .ok (.ireturn, 1) := by decide +kernel
theorem d_Md_record_98 : decode prog_14_method_62_code 98 = .ok (.aload_n 0, 1) := by decide +kernel
theorem d_Md_record_99 : decode prog_14_method_62_code 99 = .ok (.invokevirtual 471, 3) := by decide +kernel
theorem d_Md_record_102 : decode prog_14_method_62_code 102 = .ok (.aload_n 0, 1) := by decide +kernel
theorem d_Md_record_103 : decode prog_14_method_62_code 103 = .ok (.invokevirtual 433, 3) := by decide +kernel
theorem d_Md_record_106 : decode prog_14_method_62_code 106 = .ok (.iconst 0, 1) := by decide +kernel
theorem d_Md_record_107 : decode prog_14_method_62_code 107 = .ok (.istore 5, 2) := by decide +kernel
theorem d_Md_record_109 : decode prog_14_method_62_code 109 = .ok (.iconst 0, 1) := by decide +kernel
theorem d_Md_record_110 : decode prog_14_method_62_code 110 = .ok (.istore 6, 2) := by decide +kernel
theorem d_Md_record_112 : decode prog_14_method_62_code 112 = .ok (.iload 6, 2) := by decide +kernel
theorem d_Md_record_114 : decode prog_14_method_62_code 114 = .ok (.iconst 2, 1) := by decide +kernel
theorem d_Md_record_115 : decode prog_14_method_62_code 115 = .ok (.if_icmp .ge 65, 3) := by decide +kernel
theorem d_Md_record_118 : decode prog_14_method_62_code 118 = .ok (.iload 6, 2) := by decide +kernel
theorem d_Md_record_120 : decode prog_14_method_62_code 120 = .ok (.iconst 1, 1) := by decide +kernel
theorem d_Md_record_121 : decode prog_14_method_62_code 121 = .ok (.if_icmp .ne 21, 3) := by decide +kernel
theorem d_Md_record_124 : decode prog_14_method_62_code 124 = .ok (.iload 5, 2) := by decide +kernel
theorem d_Md_record_126 : decode prog_14_method_62_code 126 = .ok (.ifCond .ne 10, 3) := by decide +kernel
theorem d_Md_record_129 : decode prog_14_method_62_code 129 = .ok (.aload_n 0, 1) := by decide +kernel
theorem d_Md_record_130 : decode prog_14_method_62_code 130 = .ok (.iconst 0, 1) := by decide +kernel
theorem d_Md_record_131 : decode prog_14_method_62_code 131 = .ok (.putfield 14, 3) := by decide +kernel
theorem d_Md_record_134 : decode prog_14_method_62_code 134 = .ok (.iconst (-1), 1) := by decide +kernel
theorem d_Md_record_135 : decode prog_14_method_62_code 135 = .ok (.ireturn, 1) := by decide +kernel
theorem d_Md_record_136 : decode prog_14_method_62_code 136 = .ok (.aload_n 0, 1) := by decide +kernel
theorem d_Md_record_137 : decode prog_14_method_62_code 137 = .ok (.iload 5, 2) := by decide +kernel
theorem d_Md_record_139 : decode prog_14_method_62_code 139 = .ok (.invokevirtual 436, 3) := by decide +kernel
theorem d_Md_record_142 : decode prog_14_method_62_code 142 = .ok (.aload_n 0, 1) := by decide +kernel
theorem d_Md_record_143 : decode prog_14_method_62_code 143 = .ok (.iload 6, 2) := by decide +kernel
theorem d_Md_record_145 : decode prog_14_method_62_code 145 = .ok (.invokevirtual 474, 3) := by decide +kernel
theorem d_Md_record_148 : decode prog_14_method_62_code 148 = .ok (.aload_n 0, 1) := by decide +kernel
theorem d_Md_record_149 : decode prog_14_method_62_code 149 = .ok (.iload 6, 2) := by decide +kernel
theorem d_Md_record_151 : decode prog_14_method_62_code 151 = .ok (.iload_n 3, 1) := by decide +kernel
theorem d_Md_record_152 : decode prog_14_method_62_code 152 = .ok (.invokevirtual 477, 3) := by decide +kernel
theorem d_Md_record_155 : decode prog_14_method_62_code 155 = .ok (.iadd, 1) := by decide +kernel
theorem d_Md_record_156 : decode prog_14_method_62_code 156 = .ok (.aload_n 0, 1) := by decide +kernel
theorem d_Md_record_157 : decode prog_14_method_62_code 157 = .ok (.iload 6, 2) := by decide +kernel
theorem d_Md_record_159 : decode prog_14_method_62_code 159 = .ok (.invokevirtual 480, 3) := by decide +kernel
theorem d_Md_record_162 : decode prog_14_method_62_code 162 = .ok (.iadd, 1) := by decide +kernel
theorem d_Md_record_163 : decode prog_14_method_62_code 163 = .ok (.istore 7, 2) := by decide +kernel
theorem d_Md_record_165 : decode prog_14_method_62_code 165 = .ok (.iload 6, 2) := by decide +kernel
theorem d_Md_record_167 : decode prog_14_method_62_code 167 = .ok (.ifCond .ne 7, 3) := by decide +kernel
theorem d_Md_record_170 : decode prog_14_method_62_code 170 = .ok (.iload 7, 2) := by decide +kernel
theorem d_Md_record_172 : decode prog_14_method_62_code 172 = .ok (.istore 5, 2) := by decide +kernel
theorem d_Md_record_174 : decode prog_14_method_62_code 174 = .ok (.iinc 6 1, 3) := by decide +kernel
theorem d_Md_record_177 : decode prog_14_method_62_code 177 = .ok (.goto (-65), 3) := by decide +kernel
theorem d_Md_record_180 : decode prog_14_method_62_code 180 = .ok (.aload_n 0, 1) := by decide +kernel
theorem d_Md_record_181 : decode prog_14_method_62_code 181 = .ok (.iload_n 1, 1) := by decide +kernel
theorem d_Md_record_182 : decode prog_14_method_62_code 182 = .ok (.iconst 4, 1) := by decide +kernel
theorem d_Md_record_183 : decode prog_14_method_62_code 183 = .ok (.invokevirtual 442, 3) := by decide +kernel
theorem d_Md_record_186 : decode prog_14_method_62_code 186 = .ok (.ireturn, 1) := by decide +kernel
def y_Md_file1 : MethodName := ⟨"PatchStoreModel", "file", "(III)I"⟩
abbrev c_Md_file1 : Cond := (Jvm.Cond.code ({ cls := "PatchStoreModel", name := "file", desc := "(III)I" } : Jvm.MethodName) prog_14_method_79_code (8 : Nat) (Option.some Jvm.ClassFile.FieldType.int))
abbrev ws_Md_file1 : List Cond := c_Md_file1 :: xg_1
theorem d_Md_file1_0 : decode prog_14_method_79_code 0 = .ok (.aload_n 0, 1) := by decide +kernel
theorem d_Md_file1_1 : decode prog_14_method_79_code 1 = .ok (.iload_n 1, 1) := by decide +kernel
theorem d_Md_file1_2 : decode prog_14_method_79_code 2 = .ok (.invokevirtual 430, 3) := by decide +kernel
theorem d_Md_file1_5 : decode prog_14_method_79_code 5 = .ok (.ifCond .eq 5, 3) := by decide +kernel
theorem d_Md_file1_8 : decode prog_14_method_79_code 8 = .ok (.iconst 0, 1) := by decide +kernel
theorem d_Md_file1_9 : decode prog_14_method_79_code 9 = .ok (.ireturn, 1) := by decide +kernel
theorem d_Md_file1_10 : decode prog_14_method_79_code 10 = .ok (.aload_n 0, 1) := by decide +kernel
theorem d_Md_file1_11 : decode prog_14_method_79_code 11 = .ok (.iload_n 1, 1) := by decide +kernel
theorem d_Md_file1_12 : decode prog_14_method_79_code 12 = .ok (.iload_n 2, 1) := by decide +kernel
theorem d_Md_file1_13 : decode prog_14_method_79_code 13 = .ok (.invokevirtual 448, 3) := by decide +kernel
theorem d_Md_file1_16 : decode prog_14_method_79_code 16 = .ok (.istore 4, 2) := by decide +kernel
theorem d_Md_file1_18 : decode prog_14_method_79_code 18 = .ok (.aload_n 0, 1) := by decide +kernel
theorem d_Md_file1_19 : decode prog_14_method_79_code 19 = .ok (.iconst 1, 1) := by decide +kernel
theorem d_Md_file1_20 : decode prog_14_method_79_code 20 = .ok (.iload 4, 2) := by decide +kernel
theorem d_Md_file1_22 : decode prog_14_method_79_code 22 = .ok (.ifCond .ge 7, 3) := by decide +kernel
theorem d_Md_file1_25 : decode prog_14_method_79_code 25 = .ok (.iconst 1, 1) := by decide +kernel
theorem d_Md_file1_26 : decode prog_14_method_79_code 26 = .ok (.goto 4, 3) := by decide +kernel
theorem d_Md_file1_29 : decode prog_14_method_79_code 29 = .ok (.iconst 0, 1) := by decide +kernel
theorem d_Md_file1_30 : decode prog_14_method_79_code 30 = .ok (.invokevirtual 278, 3) := by decide +kernel
theorem d_Md_file1_33 : decode prog_14_method_79_code 33 = .ok (.ifCond .ne 26, 3) := by decide +kernel
theorem d_Md_file1_36 : decode prog_14_method_79_code 36 = .ok (.aload_n 0, 1) := by decide +kernel
theorem d_Md_file1_37 : decode prog_14_method_79_code 37 = .ok (.iconst 2, 1) := by decide +kernel
theorem d_Md_file1_38 : decode prog_14_method_79_code 38 = .ok (.iload_n 3, 1) := by decide +kernel
theorem d_Md_file1_39 : decode prog_14_method_79_code 39 = .ok (.ifCond .lt 9, 3) := by decide +kernel
theorem d_Md_file1_42 : decode prog_14_method_79_code 42 = .ok (.iload_n 3, 1) := by decide +kernel
theorem d_Md_file1_43 : decode prog_14_method_79_code 43 = .ok (.bipush 6, 2) := by decide +kernel
theorem d_Md_file1_45 : decode prog_14_method_79_code 45 = .ok (.if_icmp .le 7, 3) := by decide +kernel
theorem d_Md_file1_48 : decode prog_14_method_79_code 48 = .ok (.iconst 1, 1) := by decide +kernel
theorem d_Md_file1_49 : decode prog_14_method_79_code 49 = .ok (.goto 4, 3) := by decide +kernel
theorem d_Md_file1_52 : decode prog_14_method_79_code 52 = .ok (.iconst 0, 1) := by decide +kernel
theorem d_Md_file1_53 : decode prog_14_method_79_code 53 = .ok (.invokevirtual 278, 3) := by decide +kernel
theorem d_Md_file1_56 : decode prog_14_method_79_code 56 = .ok (.ifCond .eq 5, 3) := by decide +kernel
theorem d_Md_file1_59 : decode prog_14_method_79_code 59 = .ok (.iconst 0, 1) := by decide +kernel
theorem d_Md_file1_60 : decode prog_14_method_79_code 60 = .ok (.ireturn, 1) := by decide +kernel
theorem d_Md_file1_61 : decode prog_14_method_79_code 61 = .ok (.iload_n 3, 1) := by decide +kernel
theorem d_Md_file1_62 : decode prog_14_method_79_code 62 = .ok (.iconst 5, 1) := by decide +kernel
theorem d_Md_file1_63 : decode prog_14_method_79_code 63 = .ok (.if_icmp .ne 15, 3) := by decide +kernel
theorem d_Md_file1_66 : decode prog_14_method_79_code 66 = .ok (.aload_n 0, 1) := by decide +kernel
theorem d_Md_file1_67 : decode prog_14_method_79_code 67 = .ok (.iload_n 1, 1) := by decide +kernel
theorem d_Md_file1_68 : decode prog_14_method_79_code 68 = .ok (.iload 4, 2) := by decide +kernel
theorem d_Md_file1_70 : decode prog_14_method_79_code 70 = .ok (.invokevirtual 391, 3) := by decide +kernel
theorem d_Md_file1_73 : decode prog_14_method_79_code 73 = .ok (.aload_n 0, 1) := by decide +kernel
theorem d_Md_file1_74 : decode prog_14_method_79_code 74 = .ok (.getfield 179, 3) := by decide +kernel
theorem d_Md_file1_77 : decode prog_14_method_79_code 77 = .ok (.ireturn, 1) := by decide +kernel
theorem d_Md_file1_78 : decode prog_14_method_79_code 78 = .ok (.iload_n 3, 1) := by decide +kernel
theorem d_Md_file1_79 : decode prog_14_method_79_code 79 = .ok (.bipush 6, 2) := by decide +kernel
theorem d_Md_file1_81 : decode prog_14_method_79_code 81 = .ok (.if_icmp .ne 16, 3) := by decide +kernel
theorem d_Md_file1_84 : decode prog_14_method_79_code 84 = .ok (.aload_n 0, 1) := by decide +kernel
theorem d_Md_file1_85 : decode prog_14_method_79_code 85 = .ok (.getfield 59, 3) := by decide +kernel
theorem d_Md_file1_88 : decode prog_14_method_79_code 88 = .ok (.aload_n 0, 1) := by decide +kernel
theorem d_Md_file1_89 : decode prog_14_method_79_code 89 = .ok (.getfield 111, 3) := by decide +kernel
theorem d_Md_file1_92 : decode prog_14_method_79_code 92 = .ok (.iload 4, 2) := by decide +kernel
theorem d_Md_file1_94 : decode prog_14_method_79_code 94 = .ok (.iaload, 1) := by decide +kernel
theorem d_Md_file1_95 : decode prog_14_method_79_code 95 = .ok (.iaload, 1) := by decide +kernel
theorem d_Md_file1_96 : decode prog_14_method_79_code 96 = .ok (.ireturn, 1) := by decide +kernel
theorem d_Md_file1_97 : decode prog_14_method_79_code 97 = .ok (.aload_n 0, 1) := by decide +kernel
theorem d_Md_file1_98 : decode prog_14_method_79_code 98 = .ok (.iload_n 1, 1) := by decide +kernel
theorem d_Md_file1_99 : decode prog_14_method_79_code 99 = .ok (.iload 4, 2) := by decide +kernel
theorem d_Md_file1_101 : decode prog_14_method_79_code 101 = .ok (.invokevirtual 468, 3) := by decide +kernel
theorem d_Md_file1_104 : decode prog_14_method_79_code 104 = .ok (.iload_n 3, 1) := by decide +kernel
theorem d_Md_file1_105 : decode prog_14_method_79_code 105 = .ok (.tableswitch 88 0 3 #[31, 36, 77, 82], 31) := by decide +kernel
theorem d_Md_file1_136 : decode prog_14_method_79_code 136 = .ok (.aload_n 0, 1) := by decide +kernel
theorem d_Md_file1_137 : decode prog_14_method_79_code 137 = .ok (.getfield 214, 3) := by decide +kernel
theorem d_Md_file1_140 : decode prog_14_method_79_code 140 = .ok (.ireturn, 1) := by decide +kernel
theorem d_Md_file1_141 : decode prog_14_method_79_code 141 = .ok (.iconst 0, 1) := by decide +kernel
theorem d_Md_file1_142 : decode prog_14_method_79_code 142 = .ok (.istore 5, 2) := by decide +kernel
theorem d_Md_file1_144 : decode prog_14_method_79_code 144 = .ok (.iconst 0, 1) := by decide +kernel
theorem d_Md_file1_145 : decode prog_14_method_79_code 145 = .ok (.istore 6, 2) := by decide +kernel
theorem d_Md_file1_147 : decode prog_14_method_79_code 147 = .ok (.iload 6, 2) := by decide +kernel
theorem d_Md_file1_149 : decode prog_14_method_79_code 149 = .ok (.aload_n 0, 1) := by decide +kernel
theorem d_Md_file1_150 : decode prog_14_method_79_code 150 = .ok (.getfield 214, 3) := by decide +kernel
theorem d_Md_file1_153 : decode prog_14_method_79_code 153 = .ok (.if_icmp .ge 26, 3) := by decide +kernel
theorem d_Md_file1_156 : decode prog_14_method_79_code 156 = .ok (.iload 5, 2) := by decide +kernel
theorem d_Md_file1_158 : decode prog_14_method_79_code 158 = .ok (.aload_n 0, 1) := by decide +kernel
theorem d_Md_file1_159 : decode prog_14_method_79_code 159 = .ok (.getfield 105, 3) := by decide +kernel
theorem d_Md_file1_162 : decode prog_14_method_79_code 162 = .ok (.aload_n 0, 1) := by decide +kernel
theorem d_Md_file1_163 : decode prog_14_method_79_code 163 = .ok (.getfield 196, 3) := by decide +kernel
theorem d_Md_file1_166 : decode prog_14_method_79_code 166 = .ok (.iload 6, 2) := by decide +kernel
theorem d_Md_file1_168 : decode prog_14_method_79_code 168 = .ok (.iaload, 1) := by decide +kernel
theorem d_Md_file1_169 : decode prog_14_method_79_code 169 = .ok (.iaload, 1) := by decide +kernel
theorem d_Md_file1_170 : decode prog_14_method_79_code 170 = .ok (.iadd, 1) := by decide +kernel
theorem d_Md_file1_171 : decode prog_14_method_79_code 171 = .ok (.istore 5, 2) := by decide +kernel
theorem d_Md_file1_173 : decode prog_14_method_79_code 173 = .ok (.iinc 6 1, 3) := by decide +kernel
theorem d_Md_file1_176 : decode prog_14_method_79_code 176 = .ok (.goto (-29), 3) := by decide +kernel
theorem d_Md_file1_179 : decode prog_14_method_79_code 179 = .ok (.iload 5, 2) := by decide +kernel
theorem d_Md_file1_181 : decode prog_14_method_79_code 181 = .ok (.ireturn, 1) := by decide +kernel
theorem d_Md_file1_182 : decode prog_14_method_79_code 182 = .ok (.aload_n 0, 1) := by decide +kernel
theorem d_Md_file1_183 : decode prog_14_method_79_code 183 = .ok (.getfield 217, 3) := by decide +kernel
theorem d_Md_file1_186 : decode prog_14_method_79_code 186 = .ok (.ireturn, 1) := by decide +kernel
theorem d_Md_file1_187 : decode prog_14_method_79_code 187 = .ok (.aload_n 0, 1) := by decide +kernel
theorem d_Md_file1_188 : decode prog_14_method_79_code 188 = .ok (.iload_n 1, 1) := by decide +kernel
theorem d_Md_file1_189 : decode prog_14_method_79_code 189 = .ok (.invokevirtual 501, 3) := by decide +kernel
theorem d_Md_file1_192 : decode prog_14_method_79_code 192 = .ok (.ireturn, 1) := by decide +kernel
theorem d_Md_file1_193 : decode prog_14_method_79_code 193 = .ok (.iconst 0, 1) := by decide +kernel
theorem d_Md_file1_194 : decode prog_14_method_79_code 194 = .ok (.istore 6, 2) := by decide +kernel
theorem d_Md_file1_196 : decode prog_14_method_79_code 196 = .ok (.iconst 0, 1) := by decide +kernel
theorem d_Md_file1_197 : decode prog_14_method_79_code 197 = .ok (.istore 7, 2) := by decide +kernel
theorem d_Md_file1_199 : decode prog_14_method_79_code 199 = .ok (.iload 7, 2) := by decide +kernel
theorem d_Md_file1_201 : decode prog_14_method_79_code 201 = .ok (.aload_n 0, 1) := by decide +kernel
theorem d_Md_file1_202 : decode prog_14_method_79_code 202 = .ok (.getfield 211, 3) := by decide +kernel
theorem d_Md_file1_205 : decode prog_14_method_79_code 205 = .ok (.if_icmp .ge 22, 3) := by decide +kernel
theorem d_Md_file1_208 : decode prog_14_method_79_code 208 = .ok (.aload_n 0, 1) := by decide +kernel
theorem d_Md_file1_209 : decode prog_14_method_79_code 209 = .ok (.getfield 202, 3) := by decide +kernel
theorem d_Md_file1_212 : decode prog_14_method_79_code 212 = .ok (.iload 7, 2) := by decide +kernel
theorem d_Md_file1_214 : decode prog_14_method_79_code 214 = .ok (.baload, 1) := by decide +kernel
theorem d_Md_file1_215 : decode prog_14_method_79_code 215 = .ok (.ifCond .eq 6, 3) := by decide +kernel
theorem d_Md_file1_218 : decode prog_14_method_79_code 218 = .ok (.iinc 6 1, 3) := by decide +kernel
theorem d_Md_file1_221 : decode prog_14_method_79_code 221 = .ok (.iinc 7 1, 3) := by decide +kernel
theorem d_Md_file1_224 : decode prog_14_method_79_code 224 = .ok (.goto (-25), 3) := by decide +kernel
theorem d_Md_file1_227 : decode prog_14_method_79_code 227 = .ok (.iload 6, 2) := by decide +kernel
theorem d_Md_file1_229 : decode prog_14_method_79_code 229 = .ok (.ireturn, 1) := by decide +kernel
def y_Md_name2 : MethodName := ⟨"PatchStoreModel", "name", "(IIII)I"⟩
abbrev c_Md_name2 : Cond := (Jvm.Cond.code ({ cls := "PatchStoreModel", name := "name", desc := "(IIII)I" } : Jvm.MethodName) prog_14_method_80_code (7 : Nat) (Option.some Jvm.ClassFile.FieldType.int))
abbrev ws_Md_name2 : List Cond := c_Md_name2 :: xg_1
theorem d_Md_name2_0 : decode prog_14_method_80_code 0 = .ok (.aload_n 0, 1) := by decide +kernel
theorem d_Md_name2_1 : decode prog_14_method_80_code 1 = .ok (.iload_n 1, 1) := by decide +kernel
theorem d_Md_name2_2 : decode prog_14_method_80_code 2 = .ok (.invokevirtual 430, 3) := by decide +kernel
theorem d_Md_name2_5 : decode prog_14_method_80_code 5 = .ok (.ifCond .eq 5, 3) := by decide +kernel
theorem d_Md_name2_8 : decode prog_14_method_80_code 8 = .ok (.iconst 0, 1) := by decide +kernel
theorem d_Md_name2_9 : decode prog_14_method_80_code 9 = .ok (.ireturn, 1) := by decide +kernel
theorem d_Md_name2_10 : decode prog_14_method_80_code 10 = .ok (.aload_n 0, 1) := by decide +kernel
theorem d_Md_name2_11 : decode prog_14_method_80_code 11 = .ok (.iload_n 1, 1) := by decide +kernel
theorem d_Md_name2_12 : decode prog_14_method_80_code 12 = .ok (.iload_n 2, 1) := by decide +kernel
theorem d_Md_name2_13 : decode prog_14_method_80_code 13 = .ok (.invokevirtual 448, 3) := by decide +kernel
theorem d_Md_name2_16 : decode prog_14_method_80_code 16 = .ok (.istore 5, 2) := by decide +kernel
theorem d_Md_name2_18 : decode prog_14_method_80_code 18 = .ok (.aload_n 0, 1) := by decide +kernel
theorem d_Md_name2_19 : decode prog_14_method_80_code 19 = .ok (.iconst 1, 1) := by decide +kernel
theorem d_Md_name2_20 : decode prog_14_method_80_code 20 = .ok (.iload 5, 2) := by decide +kernel
theorem d_Md_name2_22 : decode prog_14_method_80_code 22 = .ok (.ifCond .ge 7, 3) := by decide +kernel
theorem d_Md_name2_25 : decode prog_14_method_80_code 25 = .ok (.iconst 1, 1) := by decide +kernel
theorem d_Md_name2_26 : decode prog_14_method_80_code 26 = .ok (.goto 4, 3) := by decide +kernel
theorem d_Md_name2_29 : decode prog_14_method_80_code 29 = .ok (.iconst 0, 1) := by decide +kernel
theorem d_Md_name2_30 : decode prog_14_method_80_code 30 = .ok (.invokevirtual 278, 3) := by decide +kernel
theorem d_Md_name2_33 : decode prog_14_method_80_code 33 = .ok (.ifCond .eq 5, 3) := by decide +kernel
theorem d_Md_name2_36 : decode prog_14_method_80_code 36 = .ok (.iconst 0, 1) := by decide +kernel
theorem d_Md_name2_37 : decode prog_14_method_80_code 37 = .ok (.ireturn, 1) := by decide +kernel
theorem d_Md_name2_38 : decode prog_14_method_80_code 38 = .ok (.aload_n 0, 1) := by decide +kernel
theorem d_Md_name2_39 : decode prog_14_method_80_code 39 = .ok (.iload_n 1, 1) := by decide +kernel
theorem d_Md_name2_40 : decode prog_14_method_80_code 40 = .ok (.iload 5, 2) := by decide +kernel
theorem d_Md_name2_42 : decode prog_14_method_80_code 42 = .ok (.invokevirtual 391, 3) := by decide +kernel
theorem d_Md_name2_45 : decode prog_14_method_80_code 45 = .ok (.aload_n 0, 1) := by decide +kernel
theorem d_Md_name2_46 : decode prog_14_method_80_code 46 = .ok (.iconst 1, 1) := by decide +kernel
theorem d_Md_name2_47 : decode prog_14_method_80_code 47 = .ok (.iload_n 3, 1) := by decide +kernel
theorem d_Md_name2_48 : decode prog_14_method_80_code 48 = .ok (.ifCond .lt 11, 3) := by decide +kernel
theorem d_Md_name2_51 : decode prog_14_method_80_code 51 = .ok (.iload_n 3, 1) := by decide +kernel
theorem d_Md_name2_52 : decode prog_14_method_80_code 52 = .ok (.aload_n 0, 1) := by decide +kernel
theorem d_Md_name2_53 : decode prog_14_method_80_code 53 = .ok (.getfield 179, 3) := by decide +kernel
theorem d_Md_name2_56 : decode prog_14_method_80_code 56 = .ok (.if_icmp .lt 7, 3) := by decide +kernel
theorem d_Md_name2_59 : decode prog_14_method_80_code 59 = .ok (.iconst 1, 1) := by decide +kernel
theorem d_Md_name2_60 : decode prog_14_method_80_code 60 = .ok (.goto 4, 3) := by decide +kernel
theorem d_Md_name2_63 : decode prog_14_method_80_code 63 = .ok (.iconst 0, 1) := by decide +kernel
theorem d_Md_name2_64 : decode prog_14_method_80_code 64 = .ok (.invokevirtual 278, 3) := by decide +kernel
theorem d_Md_name2_67 : decode prog_14_method_80_code 67 = .ok (.ifCond .eq 5, 3) := by decide +kernel
theorem d_Md_name2_70 : decode prog_14_method_80_code 70 = .ok (.iconst 0, 1) := by decide +kernel
theorem d_Md_name2_71 : decode prog_14_method_80_code 71 = .ok (.ireturn, 1) := by decide +kernel
theorem d_Md_name2_72 : decode prog_14_method_80_code 72 = .ok (.aload_n 0, 1) := by decide +kernel
theorem d_Md_name2_73 : decode prog_14_method_80_code 73 = .ok (.getfield 176, 3) := by decide +kernel
theorem d_Md_name2_76 : decode prog_14_method_80_code 76 = .ok (.iload_n 3, 1) := by decide +kernel
theorem d_Md_name2_77 : decode prog_14_method_80_code 77 = .ok (.iaload, 1) := by decide +kernel
theorem d_Md_name2_78 : decode prog_14_method_80_code 78 = .ok (.istore 6, 2) := by decide +kernel
theorem d_Md_name2_80 : decode prog_14_method_80_code 80 = .ok (.aload_n 0, 1) := by decide +kernel
theorem d_Md_name2_81 : decode prog_14_method_80_code 81 = .ok (.iconst 2, 1) := by decide +kernel
theorem d_Md_name2_82 : decode prog_14_method_80_code 82 = .ok (.iload 4, 2) := by decide +kernel
theorem d_Md_name2_84 : decode prog_14_method_80_code 84 = .ok (.iconst (-1), 1) := by decide +kernel
theorem d_Md_name2_85 : decode prog_14_method_80_code 85 = .ok (.if_icmp .lt 15, 3) := by decide +kernel
theorem d_Md_name2_88 : decode prog_14_method_80_code 88 = .ok (.iload 4, 2) := by decide +kernel
theorem d_Md_name2_90 : decode prog_14_method_80_code 90 = .ok (.aload_n 0, 1) := by decide +kernel
theorem d_Md_name2_91 : decode prog_14_method_80_code 91 = .ok (.getfield 74, 3) := by decide +kernel
theorem d_Md_name2_94 : decode prog_14_method_80_code 94 = .ok (.iload 6, 2) := by decide +kernel
theorem d_Md_name2_96 : decode prog_14_method_80_code 96 = .ok (.iaload, 1) := by decide +kernel
theorem d_Md_name2_97 : decode prog_14_method_80_code 97 = .ok (.if_icmp .lt 7, 3) := by decide +kernel
theorem d_Md_name2_100 : decode prog_14_method_80_code 100 = .ok (.iconst 1, 1) := by decide +kernel
theorem d_Md_name2_101 : decode prog_14_method_80_code 101 = .ok (.goto 4, 3) := by decide +kernel
theorem d_Md_name2_104 : decode prog_14_method_80_code 104 = .ok (.iconst 0, 1) := by decide +kernel
theorem d_Md_name2_105 : decode prog_14_method_80_code 105 = .ok (.invokevirtual 278, 3) := by decide +kernel
theorem d_Md_name2_108 : decode prog_14_method_80_code 108 = .ok (.ifCond .eq 5, 3) := by decide +kernel
theorem d_Md_name2_111 : decode prog_14_method_80_code 111 = .ok (.iconst 0, 1) := by decide +kernel
theorem d_Md_name2_112 : decode prog_14_method_80_code 112 = .ok (.ireturn, 1) := by decide +kernel
theorem d_Md_name2_113 : decode prog_14_method_80_code 113 = .ok (.iload 4, 2) := by decide +kernel
theorem d_Md_name2_115 : decode prog_14_method_80_code 115 = .ok (.ifCond .ge 13, 3) := by decide +kernel
theorem d_Md_name2_118 : decode prog_14_method_80_code 118 = .ok (.aload_n 0, 1) := by decide +kernel
theorem d_Md_name2_119 : decode prog_14_method_80_code 119 = .ok (.getfield 74, 3) := by decide +kernel
theorem d_Md_name2_122 : decode prog_14_method_80_code 122 = .ok (.iload 6, 2) := by decide +kernel
theorem d_Md_name2_124 : decode prog_14_method_80_code 124 = .ok (.iaload, 1) := by decide +kernel
theorem d_Md_name2_125 : decode prog_14_method_80_code 125 = .ok (.goto 18, 3) := by decide +kernel
theorem d_Md_name2_128 : decode prog_14_method_80_code 128 = .ok (.aload_n 0, 1) := by decide +kernel
theorem d_Md_name2_129 : decode prog_14_method_80_code 129 = .ok (.getfield 25, 3) := by decide +kernel
theorem d_Md_name2_132 : decode prog_14_method_80_code 132 = .ok (.aload_n 0, 1) := by decide +kernel
theorem d_Md_name2_133 : decode prog_14_method_80_code 133 = .ok (.getfield 71, 3) := by decide +kernel
theorem d_Md_name2_136 : decode prog_14_method_80_code 136 = .ok (.iload 6, 2) := by decide +kernel
theorem d_Md_name2_138 : decode prog_14_method_80_code 138 = .ok (.iaload, 1) := by decide +kernel
theorem d_Md_name2_139 : decode prog_14_method_80_code 139 = .ok (.iload 4, 2) := by decide +kernel
theorem d_Md_name2_141 : decode prog_14_method_80_code 141 = .ok (.iadd, 1) := by decide +kernel
theorem d_Md_name2_142 : decode prog_14_method_80_code 142 = .ok (.baload, 1) := by decide +kernel
theorem d_Md_name2_143 : decode prog_14_method_80_code 143 = .ok (.ireturn, 1) := by decide +kernel
def y_Md_line : MethodName := ⟨"PatchStoreModel", "line", "(IIII)I"⟩
abbrev c_Md_line : Cond := (Jvm.Cond.code ({ cls := "PatchStoreModel", name := "line", desc := "(IIII)I" } : Jvm.MethodName) prog_14_method_81_code (8 : Nat) (Option.some Jvm.ClassFile.FieldType.int))
abbrev ws_Md_line : List Cond := c_Md_line :: xg_1
theorem d_Md_line_0 : decode prog_14_method_81_code 0 = .ok (.aload_n 0, 1) := by decide +kernel
theorem d_Md_line_1 : decode prog_14_method_81_code 1 = .ok (.iload_n 1, 1) := by decide +kernel
theorem d_Md_line_2 : decode prog_14_method_81_code 2 = .ok (.invokevirtual 430, 3) := by decide +kernel
theorem d_Md_line_5 : decode prog_14_method_81_code 5 = .ok (.ifCond .eq 5, 3) := by decide +kernel
theorem d_Md_line_8 : decode prog_14_method_81_code 8 = .ok (.iconst 0, 1) := by decide +kernel
theorem d_Md_line_9 : decode prog_14_method_81_code 9 = .ok (.ireturn, 1) := by decide +kernel
theorem d_Md_line_10 : decode prog_14_method_81_code 10 = .ok (.aload_n 0, 1) := by decide +kernel
theorem d_Md_line_11 : decode prog_14_method_81_code 11 = .ok (.iload_n 1, 1) := by decide +kernel
theorem d_Md_line_12 : decode prog_14_method_81_code 12 = .ok (.iload_n 2, 1) := by decide +kernel
theorem d_Md_line_13 : decode prog_14_method_81_code 13 = .ok (.invokevirtual 448, 3) := by decide +kernel
theorem d_Md_line_16 : decode prog_14_method_81_code 16 = .ok (.istore 5, 2) := by decide +kernel
theorem d_Md_line_18 : decode prog_14_method_81_code 18 = .ok (.aload_n 0, 1) := by decide +kernel
theorem d_Md_line_19 : decode prog_14_method_81_code 19 = .ok (.iconst 1, 1) := by decide +kernel
theorem d_Md_line_20 : decode prog_14_method_81_code 20 = .ok (.iload 5, 2) := by decide +kernel
theorem d_Md_line_22 : decode prog_14_method_81_code 22 = .ok (.ifCond .ge 7, 3) := by decide +kernel
theorem d_Md_line_25 : decode prog_14_method_81_code 25 = .ok (.iconst 1, 1) := by decide +kernel
theorem d_Md_line_26 : decode prog_14_method_81_code 26 = .ok (.goto 4, 3) := by decide +kernel
theorem d_Md_line_29 : decode prog_14_method_81_code 29 = .ok (.iconst 0, 1) := by decide +kernel
theorem d_Md_line_30 : decode prog_14_method_81_code 30 = .ok (.invokevirtual 278, 3) := by decide +kernel
theorem d_Md_line_33 : decode prog_14_method_81_code 33 = .ok (.ifCond .eq 5, 3) := by decide +kernel
theorem d_Md_line_36 : decode prog_14_method_81_code 36 = .ok (.iconst 0, 1) := by decide +kernel
theorem d_Md_line_37 : decode prog_14_method_81_code 37 = .ok (.ireturn, 1) := by decide +kernel
theorem d_Md_line_38 : decode prog_14_method_81_code 38 = .ok (.aload_n 0, 1) := by decide +kernel
theorem d_Md_line_39 : decode prog_14_method_81_code 39 = .ok (.iload_n 1, 1) := by decide +kernel
theorem d_Md_line_40 : decode prog_14_method_81_code 40 = .ok (.iload 5, 2) := by decide +kernel
theorem d_Md_line_42 : decode prog_14_method_81_code 42 = .ok (.invokevirtual 468, 3) := by decide +kernel
theorem d_Md_line_45 : decode prog_14_method_81_code 45 = .ok (.aload_n 0, 1) := by decide +kernel
theorem d_Md_line_46 : decode prog_14_method_81_code 46 = .ok (.iconst 1, 1) := by decide +kernel
theorem d_Md_line_47 : decode prog_14_method_81_code 47 = .ok (.iload_n 3, 1) := by decide +kernel
theorem d_Md_line_48 : decode prog_14_method_81_code 48 = .ok (.ifCond .lt 11, 3) := by decide +kernel
theorem d_Md_line_51 : decode prog_14_method_81_code 51 = .ok (.iload_n 3, 1) := by decide +kernel
theorem d_Md_line_52 : decode prog_14_method_81_code 52 = .ok (.aload_n 0, 1) := by decide +kernel
theorem d_Md_line_53 : decode prog_14_method_81_code 53 = .ok (.getfield 214, 3) := by decide +kernel
theorem d_Md_line_56 : decode prog_14_method_81_code 56 = .ok (.if_icmp .lt 7, 3) := by decide +kernel
theorem d_Md_line_59 : decode prog_14_method_81_code 59 = .ok (.iconst 1, 1) := by decide +kernel
theorem d_Md_line_60 : decode prog_14_method_81_code 60 = .ok (.goto 4, 3) := by decide +kernel
theorem d_Md_line_63 : decode prog_14_method_81_code 63 = .ok (.iconst 0, 1) := by decide +kernel
theorem d_Md_line_64 : decode prog_14_method_81_code 64 = .ok (.invokevirtual 278, 3) := by decide +kernel
theorem d_Md_line_67 : decode prog_14_method_81_code 67 = .ok (.ifCond .eq 5, 3) := by decide +kernel
theorem d_Md_line_70 : decode prog_14_method_81_code 70 = .ok (.iconst 0, 1) := by decide +kernel
theorem d_Md_line_71 : decode prog_14_method_81_code 71 = .ok (.ireturn, 1) := by decide +kernel
theorem d_Md_line_72 : decode prog_14_method_81_code 72 = .ok (.aload_n 0, 1) := by decide +kernel
theorem d_Md_line_73 : decode prog_14_method_81_code 73 = .ok (.getfield 196, 3) := by decide +kernel
theorem d_Md_line_76 : decode prog_14_method_81_code 76 = .ok (.iload_n 3, 1) := by decide +kernel
theorem d_Md_line_77 : decode prog_14_method_81_code 77 = .ok (.iaload, 1) := by decide +kernel
theorem d_Md_line_78 : decode prog_14_method_81_code 78 = .ok (.istore 6, 2) := by decide +kernel
theorem d_Md_line_80 : decode prog_14_method_81_code 80 = .ok (.aload_n 0, 1) := by decide +kernel
theorem d_Md_line_81 : decode prog_14_method_81_code 81 = .ok (.iconst 2, 1) := by decide +kernel
theorem d_Md_line_82 : decode prog_14_method_81_code 82 = .ok (.iload 4, 2) := by decide +kernel
theorem d_Md_line_84 : decode prog_14_method_81_code 84 = .ok (.bipush (-4), 2) := by decide +kernel
theorem d_Md_line_86 : decode prog_14_method_81_code 86 = .ok (.if_icmp .lt 15, 3) := by decide +kernel
theorem d_Md_line_89 : decode prog_14_method_81_code 89 = .ok (.iload 4, 2) := by decide +kernel
theorem d_Md_line_91 : decode prog_14_method_81_code 91 = .ok (.aload_n 0, 1) := by decide +kernel
theorem d_Md_line_92 : decode prog_14_method_81_code 92 = .ok (.getfield 105, 3) := by decide +kernel
theorem d_Md_line_95 : decode prog_14_method_81_code 95 = .ok (.iload 6, 2) := by decide +kernel
theorem d_Md_line_97 : decode prog_14_method_81_code 97 = .ok (.iaload, 1) := by decide +kernel
theorem d_Md_line_98 : decode prog_14_method_81_code 98 = .ok (.if_icmp .lt 7, 3) := by decide +kernel
theorem d_Md_line_101 : decode prog_14_method_81_code 101 = .ok (.iconst 1, 1) := by decide +kernel
theorem d_Md_line_102 : decode prog_14_method_81_code 102 = .ok (.goto 4, 3) := by decide +kernel
theorem d_Md_line_105 : decode prog_14_method_81_code 105 = .ok (.iconst 0, 1) := by decide +kernel
theorem d_Md_line_106 : decode prog_14_method_81_code 106 = .ok (.invokevirtual 278, 3) := by decide +kernel
theorem d_Md_line_109 : decode prog_14_method_81_code 109 = .ok (.ifCond .eq 5, 3) := by decide +kernel
theorem d_Md_line_112 : decode prog_14_method_81_code 112 = .ok (.iconst 0, 1) := by decide +kernel
theorem d_Md_line_113 : decode prog_14_method_81_code 113 = .ok (.ireturn, 1) := by decide +kernel
theorem d_Md_line_114 : decode prog_14_method_81_code 114 = .ok (.aload_n 0, 1) := by decide +kernel
theorem d_Md_line_115 : decode prog_14_method_81_code 115 = .ok (.getfield 99, 3) := by decide +kernel
theorem d_Md_line_118 : decode prog_14_method_81_code 118 = .ok (.iload 6, 2) := by decide +kernel
theorem d_Md_line_120 : decode prog_14_method_81_code 120 = .ok (.iaload, 1) := by decide +kernel
theorem d_Md_line_121 : decode prog_14_method_81_code 121 = .ok (.istore 7, 2) := by decide +kernel
theorem d_Md_line_123 : decode prog_14_method_81_code 123 = .ok (.iload 4, 2) := by decide +kernel
theorem d_Md_line_125 : decode prog_14_method_81_code 125 = .ok (.tableswitch 74 (-4) (-1) #[63, 47, 39, 31], 31) := by decide +kernel
theorem d_Md_line_156 : decode prog_14_method_81_code 156 = .ok (.aload_n 0, 1) := by decide +kernel
theorem d_Md_line_157 : decode prog_14_method_81_code 157 = .ok (.getfield 105, 3) := by decide +kernel
theorem d_Md_line_160 : decode prog_14_method_81_code 160 = .ok (.iload 6, 2) := by decide +kernel
theorem d_Md_line_162 : decode prog_14_method_81_code 162 = .ok (.iaload, 1) := by decide +kernel
theorem d_Md_line_163 : decode prog_14_method_81_code 163 = .ok (.ireturn, 1) := by decide +kernel
theorem d_Md_line_164 : decode prog_14_method_81_code 164 = .ok (.aload_n 0, 1) := by decide +kernel
theorem d_Md_line_165 : decode prog_14_method_81_code 165 = .ok (.getfield 59, 3) := by decide +kernel
theorem d_Md_line_168 : decode prog_14_method_81_code 168 = .ok (.iload 7, 2) := by decide +kernel
theorem d_Md_line_170 : decode prog_14_method_81_code 170 = .ok (.iaload, 1) := by decide +kernel
theorem d_Md_line_171 : decode prog_14_method_81_code 171 = .ok (.ireturn, 1) := by decide +kernel
theorem d_Md_line_172 : decode prog_14_method_81_code 172 = .ok (.iload 7, 2) := by decide +kernel
theorem d_Md_line_174 : decode prog_14_method_81_code 174 = .ok (.aload_n 0, 1) := by decide +kernel
theorem d_Md_line_175 : decode prog_14_method_81_code 175 = .ok (.getfield 41, 3) := by decide +kernel
theorem d_Md_line_178 : decode prog_14_method_81_code 178 = .ok (.aload_n 0, 1) := by decide +kernel
theorem d_Md_line_179 : decode prog_14_method_81_code 179 = .ok (.getfield 59, 3) := by decide +kernel
theorem d_Md_line_182 : decode prog_14_method_81_code 182 = .ok (.iload 7, 2) := by decide +kernel
theorem d_Md_line_184 : decode prog_14_method_81_code 184 = .ok (.iaload, 1) := by decide +kernel
theorem d_Md_line_185 : decode prog_14_method_81_code 185 = .ok (.iaload, 1) := by decide +kernel
theorem d_Md_line_186 : decode prog_14_method_81_code 186 = .ok (.isub, 1) := by decide +kernel
theorem d_Md_line_187 : decode prog_14_method_81_code 187 = .ok (.ireturn, 1) := by decide +kernel
theorem d_Md_line_188 : decode prog_14_method_81_code 188 = .ok (.iload 6, 2) := by decide +kernel
theorem d_Md_line_190 : decode prog_14_method_81_code 190 = .ok (.aload_n 0, 1) := by decide +kernel
theorem d_Md_line_191 : decode prog_14_method_81_code 191 = .ok (.getfield 83, 3) := by decide +kernel
theorem d_Md_line_194 : decode prog_14_method_81_code 194 = .ok (.iload 7, 2) := by decide +kernel
theorem d_Md_line_196 : decode prog_14_method_81_code 196 = .ok (.iaload, 1) := by decide +kernel
theorem d_Md_line_197 : decode prog_14_method_81_code 197 = .ok (.isub, 1) := by decide +kernel
theorem d_Md_line_198 : decode prog_14_method_81_code 198 = .ok (.ireturn, 1) := by decide +kernel
theorem d_Md_line_199 : decode prog_14_method_81_code 199 = .ok (.aload_n 0, 1) := by decide +kernel
theorem d_Md_line_200 : decode prog_14_method_81_code 200 = .ok (.getfield 25, 3) := by decide +kernel
theorem d_Md_line_203 : decode prog_14_method_81_code 203 = .ok (.aload_n 0, 1) := by decide +kernel
theorem d_Md_line_204 : decode prog_14_method_81_code 204 = .ok (.getfield 102, 3) := by decide +kernel
theorem d_Md_line_207 : decode prog_14_method_81_code 207 = .ok (.iload 6, 2) := by decide +kernel
theorem d_Md_line_209 : decode prog_14_method_81_code 209 = .ok (.iaload, 1) := by decide +kernel
theorem d_Md_line_210 : decode prog_14_method_81_code 210 = .ok (.iload 4, 2) := by decide +kernel
theorem d_Md_line_212 : decode prog_14_method_81_code 212 = .ok (.iadd, 1) := by decide +kernel
theorem d_Md_line_213 : decode prog_14_method_81_code 213 = .ok (.baload, 1) := by decide +kernel
theorem d_Md_line_214 : decode prog_14_method_81_code 214 = .ok (.sipush 255, 3) := by decide +kernel
theorem d_Md_line_217 : decode prog_14_method_81_code 217 = .ok (.iand, 1) := by decide +kernel
theorem d_Md_line_218 : decode prog_14_method_81_code 218 = .ok (.ireturn, 1) := by decide +kernel
def y_Md_show : MethodName := ⟨"PatchStoreModel", "show", "(I)I"⟩
abbrev c_Md_show : Cond := (Jvm.Cond.code ({ cls := "PatchStoreModel", name := "show", desc := "(I)I" } : Jvm.MethodName) prog_14_method_69_code (2 : Nat) (Option.some Jvm.ClassFile.FieldType.int))
abbrev ws_Md_show : List Cond := c_Md_show :: xg_1
theorem d_Md_show_0 : decode prog_14_method_69_code 0 = .ok (.aload_n 0, 1) := by decide +kernel
theorem d_Md_show_1 : decode prog_14_method_69_code 1 = .ok (.iconst 0, 1) := by decide +kernel
theorem d_Md_show_2 : decode prog_14_method_69_code 2 = .ok (.putfield 18, 3) := by decide +kernel
theorem d_Md_show_5 : decode prog_14_method_69_code 5 = .ok (.aload_n 0, 1) := by decide +kernel
theorem d_Md_show_6 : decode prog_14_method_69_code 6 = .ok (.iconst 1, 1) := by decide +kernel
theorem d_Md_show_7 : decode prog_14_method_69_code 7 = .ok (.iload_n 1, 1) := by decide +kernel
theorem d_Md_show_8 : decode prog_14_method_69_code 8 = .ok (.ifCond .lt 11, 3) := by decide +kernel
theorem d_Md_show_11 : decode prog_14_method_69_code 11 = .ok (.iload_n 1, 1) := by decide +kernel
theorem d_Md_show_12 : decode prog_14_method_69_code 12 = .ok (.aload_n 0, 1) := by decide +kernel
theorem d_Md_show_13 : decode prog_14_method_69_code 13 = .ok (.getfield 52, 3) := by decide +kernel
theorem d_Md_show_16 : decode prog_14_method_69_code 16 = .ok (.if_icmp .lt 7, 3) := by decide +kernel
theorem d_Md_show_19 : decode prog_14_method_69_code 19 = .ok (.iconst 1, 1) := by decide +kernel
theorem d_Md_show_20 : decode prog_14_method_69_code 20 = .ok (.goto 4, 3) := by decide +kernel
theorem d_Md_show_23 : decode prog_14_method_69_code 23 = .ok (.iconst 0, 1) := by decide +kernel
theorem d_Md_show_24 : decode prog_14_method_69_code 24 = .ok (.invokevirtual 278, 3) := by decide +kernel
theorem d_Md_show_27 : decode prog_14_method_69_code 27 = .ok (.ifCond .ne 27, 3) := by decide +kernel
theorem d_Md_show_30 : decode prog_14_method_69_code 30 = .ok (.aload_n 0, 1) := by decide +kernel
theorem d_Md_show_31 : decode prog_14_method_69_code 31 = .ok (.iconst 2, 1) := by decide +kernel
theorem d_Md_show_32 : decode prog_14_method_69_code 32 = .ok (.aload_n 0, 1) := by decide +kernel
theorem d_Md_show_33 : decode prog_14_method_69_code 33 = .ok (.getfield 35, 3) := by decide +kernel
theorem d_Md_show_36 : decode prog_14_method_69_code 36 = .ok (.iload_n 1, 1) := by decide +kernel
theorem d_Md_show_37 : decode prog_14_method_69_code 37 = .ok (.iaload, 1) := by decide +kernel
theorem d_Md_show_38 : decode prog_14_method_69_code 38 = .ok (.ldc 7, 2) := by decide +kernel
theorem d_Md_show_40 : decode prog_14_method_69_code 40 = .ok (.if_icmp .le 7, 3) := by decide +kernel
theorem d_Md_show_43 : decode prog_14_method_69_code 43 = .ok (.iconst 1, 1) := by decide +kernel
theorem d_Md_show_44 : decode prog_14_method_69_code 44 = .ok (.goto 4, 3) := by decide +kernel
theorem d_Md_show_47 : decode prog_14_method_69_code 47 = .ok (.iconst 0, 1) := by decide +kernel
theorem d_Md_show_48 : decode prog_14_method_69_code 48 = .ok (.invokevirtual 278, 3) := by decide +kernel
theorem d_Md_show_51 : decode prog_14_method_69_code 51 = .ok (.ifCond .eq 5, 3) := by decide +kernel
theorem d_Md_show_54 : decode prog_14_method_69_code 54 = .ok (.iconst 0, 1) := by decide +kernel
theorem d_Md_show_55 : decode prog_14_method_69_code 55 = .ok (.ireturn, 1) := by decide +kernel
theorem d_Md_show_56 : decode prog_14_method_69_code 56 = .ok (.aload_n 0, 1) := by decide +kernel
theorem d_Md_show_57 : decode prog_14_method_69_code 57 = .ok (.getfield 25, 3) := by decide +kernel
theorem d_Md_show_60 : decode prog_14_method_69_code 60 = .ok (.aload_n 0, 1) := by decide +kernel
theorem d_Md_show_61 : decode prog_14_method_69_code 61 = .ok (.getfield 31, 3) := by decide +kernel
theorem d_Md_show_64 : decode prog_14_method_69_code 64 = .ok (.iload_n 1, 1) := by decide +kernel
theorem d_Md_show_65 : decode prog_14_method_69_code 65 = .ok (.iaload, 1) := by decide +kernel
theorem d_Md_show_66 : decode prog_14_method_69_code 66 = .ok (.aload_n 0, 1) := by decide +kernel
theorem d_Md_show_67 : decode prog_14_method_69_code 67 = .ok (.getfield 8, 3) := by decide +kernel
theorem d_Md_show_70 : decode prog_14_method_69_code 70 = .ok (.iconst 0, 1) := by decide +kernel
theorem d_Md_show_71 : decode prog_14_method_69_code 71 = .ok (.aload_n 0, 1) := by decide +kernel
theorem d_Md_show_72 : decode prog_14_method_69_code 72 = .ok (.getfield 35, 3) := by decide +kernel
theorem d_Md_show_75 : decode prog_14_method_69_code 75 = .ok (.iload_n 1, 1) := by decide +kernel
theorem d_Md_show_76 : decode prog_14_method_69_code 76 = .ok (.iaload, 1) := by decide +kernel
theorem d_Md_show_77 : decode prog_14_method_69_code 77 = .ok (.invokestatic 361, 3) := by decide +kernel
theorem d_Md_show_80 : decode prog_14_method_69_code 80 = .ok (.aload_n 0, 1) := by decide +kernel
theorem d_Md_show_81 : decode prog_14_method_69_code 81 = .ok (.aload_n 0, 1) := by decide +kernel
theorem d_Md_show_82 : decode prog_14_method_69_code 82 = .ok (.getfield 35, 3) := by decide +kernel
theorem d_Md_show_85 : decode prog_14_method_69_code 85 = .ok (.iload_n 1, 1) := by decide +kernel
theorem d_Md_show_86 : decode prog_14_method_69_code 86 = .ok (.iaload, 1) := by decide +kernel
theorem d_Md_show_87 : decode prog_14_method_69_code 87 = .ok (.putfield 14, 3) := by decide +kernel
theorem d_Md_show_90 : decode prog_14_method_69_code 90 = .ok (.aload_n 0, 1) := by decide +kernel
theorem d_Md_show_91 : decode prog_14_method_69_code 91 = .ok (.getfield 14, 3) := by decide +kernel
theorem d_Md_show_94 : decode prog_14_method_69_code 94 = .ok (.ireturn, 1) := by decide +kernel
def y_Md_hash : MethodName := ⟨"PatchStoreModel", "hash", "(II)I"⟩
abbrev c_Md_hash : Cond := (Jvm.Cond.code ({ cls := "PatchStoreModel", name := "hash", desc := "(II)I" } : Jvm.MethodName) prog_14_method_74_code (3 : Nat) (Option.some Jvm.ClassFile.FieldType.int))
abbrev ws_Md_hash : List Cond := c_Md_hash :: xg_1
theorem d_Md_hash_0 : decode prog_14_method_74_code 0 = .ok (.aload_n 0, 1) := by decide +kernel
theorem d_Md_hash_1 : decode prog_14_method_74_code 1 = .ok (.iconst 0, 1) := by decide +kernel
theorem d_Md_hash_2 : decode prog_14_method_74_code 2 = .ok (.putfield 18, 3) := by decide +kernel
theorem d_Md_hash_5 : decode prog_14_method_74_code 5 = .ok (.aload_n 0, 1) := by decide +kernel
theorem d_Md_hash_6 : decode prog_14_method_74_code 6 = .ok (.iconst 1, 1) := by decide +kernel
theorem d_Md_hash_7 : decode prog_14_method_74_code 7 = .ok (.iload_n 1, 1) := by decide +kernel
theorem d_Md_hash_8 : decode prog_14_method_74_code 8 = .ok (.ifCond .lt 11, 3) := by decide +kernel
theorem d_Md_hash_11 : decode prog_14_method_74_code 11 = .ok (.iload_n 1, 1) := by decide +kernel
theorem d_Md_hash_12 : decode prog_14_method_74_code 12 = .ok (.aload_n 0, 1) := by decide +kernel
theorem d_Md_hash_13 : decode prog_14_method_74_code 13 = .ok (.getfield 52, 3) := by decide +kernel
theorem d_Md_hash_16 : decode prog_14_method_74_code 16 = .ok (.if_icmp .lt 7, 3) := by decide +kernel
theorem d_Md_hash_19 : decode prog_14_method_74_code 19 = .ok (.iconst 1, 1) := by decide +kernel
theorem d_Md_hash_20 : decode prog_14_method_74_code 20 = .ok (.goto 4, 3) := by decide +kernel
theorem d_Md_hash_23 : decode prog_14_method_74_code 23 = .ok (.iconst 0, 1) := by decide +kernel
theorem d_Md_hash_24 : decode prog_14_method_74_code 24 = .ok (.invokevirtual 278, 3) := by decide +kernel
theorem d_Md_hash_27 : decode prog_14_method_74_code 27 = .ok (.ifCond .ne 26, 3) := by decide +kernel
theorem d_Md_hash_30 : decode prog_14_method_74_code 30 = .ok (.aload_n 0, 1) := by decide +kernel
theorem d_Md_hash_31 : decode prog_14_method_74_code 31 = .ok (.iconst 2, 1) := by decide +kernel
theorem d_Md_hash_32 : decode prog_14_method_74_code 32 = .ok (.iload_n 2, 1) := by decide +kernel
theorem d_Md_hash_33 : decode prog_14_method_74_code 33 = .ok (.ifCond .lt 9, 3) := by decide +kernel
theorem d_Md_hash_36 : decode prog_14_method_74_code 36 = .ok (.iload_n 2, 1) := by decide +kernel
theorem d_Md_hash_37 : decode prog_14_method_74_code 37 = .ok (.bipush 31, 2) := by decide +kernel
theorem d_Md_hash_39 : decode prog_14_method_74_code 39 = .ok (.if_icmp .le 7, 3) := by decide +kernel
theorem d_Md_hash_42 : decode prog_14_method_74_code 42 = .ok (.iconst 1, 1) := by decide +kernel
theorem d_Md_hash_43 : decode prog_14_method_74_code 43 = .ok (.goto 4, 3) := by decide +kernel
theorem d_Md_hash_46 : decode prog_14_method_74_code 46 = .ok (.iconst 0, 1) := by decide +kernel
theorem d_Md_hash_47 : decode prog_14_method_74_code 47 = .ok (.invokevirtual 278, 3) := by decide +kernel
theorem d_Md_hash_50 : decode prog_14_method_74_code 50 = .ok (.ifCond .eq 5, 3) := by decide +kernel
theorem d_Md_hash_53 : decode prog_14_method_74_code 53 = .ok (.iconst 0, 1) := by decide +kernel
theorem d_Md_hash_54 : decode prog_14_method_74_code 54 = .ok (.ireturn, 1) := by decide +kernel
theorem d_Md_hash_55 : decode prog_14_method_74_code 55 = .ok (.aload_n 0, 1) := by decide +kernel
theorem d_Md_hash_56 : decode prog_14_method_74_code 56 = .ok (.getfield 45, 3) := by decide +kernel
theorem d_Md_hash_59 : decode prog_14_method_74_code 59 = .ok (.iload_n 1, 1) := by decide +kernel
theorem d_Md_hash_60 : decode prog_14_method_74_code 60 = .ok (.aaload, 1) := by decide +kernel
theorem d_Md_hash_61 : decode prog_14_method_74_code 61 = .ok (.iload_n 2, 1) := by decide +kernel
theorem d_Md_hash_62 : decode prog_14_method_74_code 62 = .ok (.baload, 1) := by decide +kernel
theorem d_Md_hash_63 : decode prog_14_method_74_code 63 = .ok (.sipush 255, 3) := by decide +kernel
theorem d_Md_hash_66 : decode prog_14_method_74_code 66 = .ok (.iand, 1) := by decide +kernel
theorem d_Md_hash_67 : decode prog_14_method_74_code 67 = .ok (.ireturn, 1) := by decide +kernel
def y_Md_drop : MethodName := ⟨"PatchStoreModel", "drop", "(II)I"⟩
abbrev c_Md_drop : Cond := (Jvm.Cond.code ({ cls := "PatchStoreModel", name := "drop", desc := "(II)I" } : Jvm.MethodName) prog_14_method_72_code (5 : Nat) (Option.some Jvm.ClassFile.FieldType.int))
abbrev ws_Md_drop : List Cond := c_Md_drop :: xg_1
theorem d_Md_drop_0 : decode prog_14_method_72_code 0 = .ok (.aload_n 0, 1) := by decide +kernel
theorem d_Md_drop_1 : decode prog_14_method_72_code 1 = .ok (.iload_n 1, 1) := by decide +kernel
theorem d_Md_drop_2 : decode prog_14_method_72_code 2 = .ok (.invokevirtual 430, 3) := by decide +kernel
theorem d_Md_drop_5 : decode prog_14_method_72_code 5 = .ok (.ifCond .ne 39, 3) := by decide +kernel
theorem d_Md_drop_8 : decode prog_14_method_72_code 8 = .ok (.aload_n 0, 1) := by decide +kernel
theorem d_Md_drop_9 : decode prog_14_method_72_code 9 = .ok (.iconst 1, 1) := by decide +kernel
theorem d_Md_drop_10 : decode prog_14_method_72_code 10 = .ok (.iload_n 2, 1) := by decide +kernel
theorem d_Md_drop_11 : decode prog_14_method_72_code 11 = .ok (.ifCond .lt 22, 3) := by decide +kernel
theorem d_Md_drop_14 : decode prog_14_method_72_code 14 = .ok (.iload_n 2, 1) := by decide +kernel
theorem d_Md_drop_15 : decode prog_14_method_72_code 15 = .ok (.aload_n 0, 1) := by decide +kernel
theorem d_Md_drop_16 : decode prog_14_method_72_code 16 = .ok (.getfield 52, 3) := by decide +kernel
theorem d_Md_drop_19 : decode prog_14_method_72_code 19 = .ok (.if_icmp .ge 14, 3) := by decide +kernel
theorem d_Md_drop_22 : decode prog_14_method_72_code 22 = .ok (.aload_n 0, 1) := by decide +kernel
theorem d_Md_drop_23 : decode prog_14_method_72_code 23 = .ok (.getfield 122, 3) := by decide +kernel
theorem d_Md_drop_26 : decode prog_14_method_72_code 26 = .ok (.iload_n 1, 1) := by decide +kernel
theorem d_Md_drop_27 : decode prog_14_method_72_code 27 = .ok (.aaload, 1) := by decide +kernel
theorem d_Md_drop_28 : decode prog_14_method_72_code 28 = .ok (.iload_n 2, 1) := by decide +kernel
theorem d_Md_drop_29 : decode prog_14_method_72_code 29 = .ok (.baload, 1) := by decide +kernel
theorem d_Md_drop_30 : decode prog_14_method_72_code 30 = .ok (.ifCond .ne 7, 3) := by decide +kernel
theorem d_Md_drop_33 : decode prog_14_method_72_code 33 = .ok (.iconst 1, 1) := by decide +kernel
theorem d_Md_drop_34 : decode prog_14_method_72_code 34 = .ok (.goto 4, 3) := by decide +kernel
theorem d_Md_drop_37 : decode prog_14_method_72_code 37 = .ok (.iconst 0, 1) := by decide +kernel
theorem d_Md_drop_38 : decode prog_14_method_72_code 38 = .ok (.invokevirtual 278, 3) := by decide +kernel
theorem d_Md_drop_41 : decode prog_14_method_72_code 41 = .ok (.ifCond .eq 5, 3) := by decide +kernel
theorem d_Md_drop_44 : decode prog_14_method_72_code 44 = .ok (.iconst 0, 1) := by decide +kernel
theorem d_Md_drop_45 : decode prog_14_method_72_code 45 = .ok (.ireturn, 1) := by decide +kernel
theorem d_Md_drop_46 : decode prog_14_method_72_code 46 = .ok (.iconst 0, 1) := by decide +kernel
theorem d_Md_drop_47 : decode prog_14_method_72_code 47 = .ok (.istore_n 3, 1) := by decide +kernel
theorem d_Md_drop_48 : decode prog_14_method_72_code 48 = .ok (.iload_n 3, 1) := by decide +kernel
theorem d_Md_drop_49 : decode prog_14_method_72_code 49 = .ok (.aload_n 0, 1) := by decide +kernel
theorem d_Md_drop_50 : decode prog_14_method_72_code 50 = .ok (.getfield 52, 3) := by decide +kernel
theorem d_Md_drop_53 : decode prog_14_method_72_code 53 = .ok (.if_icmp .ge 76, 3) := by decide +kernel
theorem d_Md_drop_56 : decode prog_14_method_72_code 56 = .ok (.aload_n 0, 1) := by decide +kernel
theorem d_Md_drop_57 : decode prog_14_method_72_code 57 = .ok (.getfield 122, 3) := by decide +kernel
theorem d_Md_drop_60 : decode prog_14_method_72_code 60 = .ok (.iload_n 1, 1) := by decide +kernel
theorem d_Md_drop_61 : decode prog_14_method_72_code 61 = .ok (.aaload, 1) := by decide +kernel
theorem d_Md_drop_62 : decode prog_14_method_72_code 62 = .ok (.iload_n 3, 1) := by decide +kernel
theorem d_Md_drop_63 : decode prog_14_method_72_code 63 = .ok (.baload, 1) := by decide +kernel
theorem d_Md_drop_64 : decode prog_14_method_72_code 64 = .ok (.ifCond .ne 6, 3) := by decide +kernel
theorem d_Md_drop_67 : decode prog_14_method_72_code 67 = .ok (.goto 56, 3) := by decide +kernel
theorem d_Md_drop_70 : decode prog_14_method_72_code 70 = .ok (.aload_n 0, 1) := by decide +kernel
theorem d_Md_drop_71 : decode prog_14_method_72_code 71 = .ok (.getfield 38, 3) := by decide +kernel
theorem d_Md_drop_74 : decode prog_14_method_72_code 74 = .ok (.iload_n 3, 1) := by decide +kernel
theorem d_Md_drop_75 : decode prog_14_method_72_code 75 = .ok (.iaload, 1) := by decide +kernel
theorem d_Md_drop_76 : decode prog_14_method_72_code 76 = .ok (.istore 4, 2) := by decide +kernel
theorem d_Md_drop_78 : decode prog_14_method_72_code 78 = .ok (.iload 4, 2) := by decide +kernel
theorem d_Md_drop_80 : decode prog_14_method_72_code 80 = .ok (.aload_n 0, 1) := by decide +kernel
theorem d_Md_drop_81 : decode prog_14_method_72_code 81 = .ok (.getfield 38, 3) := by decide +kernel
theorem d_Md_drop_84 : decode prog_14_method_72_code 84 = .ok (.iload_n 3, 1) := by decide +kernel
theorem d_Md_drop_85 : decode prog_14_method_72_code 85 = .ok (.iconst 1, 1) := by decide +kernel
theorem d_Md_drop_86 : decode prog_14_method_72_code 86 = .ok (.iadd, 1) := by decide +kernel
theorem d_Md_drop_87 : decode prog_14_method_72_code 87 = .ok (.iaload, 1) := by decide +kernel
theorem d_Md_drop_88 : decode prog_14_method_72_code 88 = .ok (.if_icmp .ge 35, 3) := by decide +kernel
theorem d_Md_drop_91 : decode prog_14_method_72_code 91 = .ok (.aload_n 0, 1) := by decide +kernel
theorem d_Md_drop_92 : decode prog_14_method_72_code 92 = .ok (.iconst 2, 1) := by decide +kernel
theorem d_Md_drop_93 : decode prog_14_method_72_code 93 = .ok (.aload_n 0, 1) := by decide +kernel
theorem d_Md_drop_94 : decode prog_14_method_72_code 94 = .ok (.getfield 49, 3) := by decide +kernel
theorem d_Md_drop_97 : decode prog_14_method_72_code 97 = .ok (.iload 4, 2) := by decide +kernel
theorem d_Md_drop_99 : decode prog_14_method_72_code 99 = .ok (.iaload, 1) := by decide +kernel
theorem d_Md_drop_100 : decode prog_14_method_72_code 100 = .ok (.iload_n 2, 1) := by decide +kernel
theorem d_Md_drop_101 : decode prog_14_method_72_code 101 = .ok (.if_icmp .ne 7, 3) := by decide +kernel
theorem d_Md_drop_104 : decode prog_14_method_72_code 104 = .ok (.iconst 1, 1) := by decide +kernel
theorem d_Md_drop_105 : decode prog_14_method_72_code 105 = .ok (.goto 4, 3) := by decide +kernel
theorem d_Md_drop_108 : decode prog_14_method_72_code 108 = .ok (.iconst 0, 1) := by decide +kernel
theorem d_Md_drop_109 : decode prog_14_method_72_code 109 = .ok (.invokevirtual 278, 3) := by decide +kernel
theorem d_Md_drop_112 : decode prog_14_method_72_code 112 = .ok (.ifCond .eq 5, 3) := by decide +kernel
theorem d_Md_drop_115 : decode prog_14_method_72_code 115 = .ok (.iconst 0, 1) := by decide +kernel
theorem d_Md_drop_116 : decode prog_14_method_72_code 116 = .ok (.ireturn, 1) := by decide +kernel
theorem d_Md_drop_117 : decode prog_14_method_72_code 117 = .ok (.iinc 4 1, 3) := by decide +kernel
theorem d_Md_drop_120 : decode prog_14_method_72_code 120 = .ok (.goto (-42), 3) := by decide +kernel
theorem d_Md_drop_123 : decode prog_14_method_72_code 123 = .ok (.iinc 3 1, 3) := by decide +kernel
theorem d_Md_drop_126 : decode prog_14_method_72_code 126 = .ok (.goto (-78), 3) := by decide +kernel
theorem d_Md_drop_129 : decode prog_14_method_72_code 129 = .ok (.aload_n 0, 1) := by decide +kernel
theorem d_Md_drop_130 : decode prog_14_method_72_code 130 = .ok (.getfield 122, 3) := by decide +kernel
theorem d_Md_drop_133 : decode prog_14_method_72_code 133 = .ok (.iload_n 1, 1) := by decide +kernel
theorem d_Md_drop_134 : decode prog_14_method_72_code 134 = .ok (.aaload, 1) := by decide +kernel
theorem d_Md_drop_135 : decode prog_14_method_72_code 135 = .ok (.iload_n 2, 1) := by decide +kernel
theorem d_Md_drop_136 : decode prog_14_method_72_code 136 = .ok (.iconst 0, 1) := by decide +kernel
theorem d_Md_drop_137 : decode prog_14_method_72_code 137 = .ok (.bastore, 1) := by decide +kernel
theorem d_Md_drop_138 : decode prog_14_method_72_code 138 = .ok (.aload_n 0, 1) := by decide +kernel
theorem d_Md_drop_139 : decode prog_14_method_72_code 139 = .ok (.dup, 1) := by decide +kernel
theorem d_Md_drop_140 : decode prog_14_method_72_code 140 = .ok (.getfield 125, 3) := by decide +kernel
theorem d_Md_drop_143 : decode prog_14_method_72_code 143 = .ok (.iconst 1, 1) := by decide +kernel
theorem d_Md_drop_144 : decode prog_14_method_72_code 144 = .ok (.iadd, 1) := by decide +kernel
theorem d_Md_drop_145 : decode prog_14_method_72_code 145 = .ok (.putfield 125, 3) := by decide +kernel
theorem d_Md_drop_148 : decode prog_14_method_72_code 148 = .ok (.aload_n 0, 1) := by decide +kernel
theorem d_Md_drop_149 : decode prog_14_method_72_code 149 = .ok (.iload_n 1, 1) := by decide +kernel
theorem d_Md_drop_150 : decode prog_14_method_72_code 150 = .ok (.invokevirtual 492, 3) := by decide +kernel
theorem d_Md_drop_153 : decode prog_14_method_72_code 153 = .ok (.ireturn, 1) := by decide +kernel
def y_Md_has : MethodName := ⟨"PatchStoreModel", "has", "(III)I"⟩
abbrev c_Md_has : Cond := (Jvm.Cond.code ({ cls := "PatchStoreModel", name := "has", desc := "(III)I" } : Jvm.MethodName) prog_14_method_73_code (6 : Nat) (Option.some Jvm.ClassFile.FieldType.int))
abbrev ws_Md_has : List Cond := c_Md_has :: xg_1
theorem d_Md_has_0 : decode prog_14_method_73_code 0 = .ok (.aload_n 0, 1) := by decide +kernel
theorem d_Md_has_1 : decode prog_14_method_73_code 1 = .ok (.iload_n 1, 1) := by decide +kernel
theorem d_Md_has_2 : decode prog_14_method_73_code 2 = .ok (.invokevirtual 430, 3) := by decide +kernel
theorem d_Md_has_5 : decode prog_14_method_73_code 5 = .ok (.ifCond .ne 50, 3) := by decide +kernel
theorem d_Md_has_8 : decode prog_14_method_73_code 8 = .ok (.aload_n 0, 1) := by decide +kernel
theorem d_Md_has_9 : decode prog_14_method_73_code 9 = .ok (.iconst 1, 1) := by decide +kernel
theorem d_Md_has_10 : decode prog_14_method_73_code 10 = .ok (.iload_n 2, 1) := by decide +kernel
theorem d_Md_has_11 : decode prog_14_method_73_code 11 = .ok (.ifCond .lt 11, 3) := by decide +kernel
theorem d_Md_has_14 : decode prog_14_method_73_code 14 = .ok (.iload_n 2, 1) := by decide +kernel
theorem d_Md_has_15 : decode prog_14_method_73_code 15 = .ok (.aload_n 0, 1) := by decide +kernel
theorem d_Md_has_16 : decode prog_14_method_73_code 16 = .ok (.getfield 52, 3) := by decide +kernel
theorem d_Md_has_19 : decode prog_14_method_73_code 19 = .ok (.if_icmp .lt 7, 3) := by decide +kernel
theorem d_Md_has_22 : decode prog_14_method_73_code 22 = .ok (.iconst 1, 1) := by decide +kernel
theorem d_Md_has_23 : decode prog_14_method_73_code 23 = .ok (.goto 4, 3) := by decide +kernel
theorem d_Md_has_26 : decode prog_14_method_73_code 26 = .ok (.iconst 0, 1) := by decide +kernel
theorem d_Md_has_27 : decode prog_14_method_73_code 27 = .ok (.invokevirtual 278, 3) := by decide +kernel
theorem d_Md_has_30 : decode prog_14_method_73_code 30 = .ok (.ifCond .ne 25, 3) := by decide +kernel
theorem d_Md_has_33 : decode prog_14_method_73_code 33 = .ok (.aload_n 0, 1) := by decide +kernel
theorem d_Md_has_34 : decode prog_14_method_73_code 34 = .ok (.iconst 2, 1) := by decide +kernel
theorem d_Md_has_35 : decode prog_14_method_73_code 35 = .ok (.iload_n 3, 1) := by decide +kernel
theorem d_Md_has_36 : decode prog_14_method_73_code 36 = .ok (.ifCond .lt 8, 3) := by decide +kernel
theorem d_Md_has_39 : decode prog_14_method_73_code 39 = .ok (.iload_n 3, 1) := by decide +kernel
theorem d_Md_has_40 : decode prog_14_method_73_code 40 = .ok (.iconst 2, 1) := by decide +kernel
theorem d_Md_has_41 : decode prog_14_method_73_code 41 = .ok (.if_icmp .le 7, 3) := by decide +kernel
theorem d_Md_has_44 : decode prog_14_method_73_code 44 = .ok (.iconst 1, 1) := by decide +kernel
theorem d_Md_has_45 : decode prog_14_method_73_code 45 = .ok (.goto 4, 3) := by decide +kernel
theorem d_Md_has_48 : decode prog_14_method_73_code 48 = .ok (.iconst 0, 1) := by decide +kernel
theorem d_Md_has_49 : decode prog_14_method_73_code 49 = .ok (.invokevirtual 278, 3) := by decide +kernel
theorem d_Md_has_52 : decode prog_14_method_73_code 52 = .ok (.ifCond .eq 5, 3) := by decide +kernel
theorem d_Md_has_55 : decode prog_14_method_73_code 55 = .ok (.iconst 0, 1) := by decide +kernel
theorem d_Md_has_56 : decode prog_14_method_73_code 56 = .ok (.ireturn, 1) := by decide +kernel
theorem d_Md_has_57 : decode prog_14_method_73_code 57 = .ok (.iload_n 3, 1) := by decide +kernel
theorem d_Md_has_58 : decode prog_14_method_73_code 58 = .ok (.ifCond .ne 20, 3) := by decide +kernel
theorem d_Md_has_61 : decode prog_14_method_73_code 61 = .ok (.aload_n 0, 1) := by decide +kernel
theorem d_Md_has_62 : decode prog_14_method_73_code 62 = .ok (.getfield 122, 3) := by decide +kernel
theorem d_Md_has_65 : decode prog_14_method_73_code 65 = .ok (.iload_n 1, 1) := by decide +kernel
theorem d_Md_has_66 : decode prog_14_method_73_code 66 = .ok (.aaload, 1) := by decide +kernel
theorem d_Md_has_67 : decode prog_14_method_73_code 67 = .ok (.iload_n 2, 1) := by decide +kernel
theorem d_Md_has_68 : decode prog_14_method_73_code 68 = .ok (.baload, 1) := by decide +kernel
theorem d_Md_has_69 : decode prog_14_method_73_code 69 = .ok (.ifCond .eq 7, 3) := by decide +kernel
theorem d_Md_has_72 : decode prog_14_method_73_code 72 = .ok (.iconst 1, 1) := by decide +kernel
theorem d_Md_has_73 : decode prog_14_method_73_code 73 = .ok (.goto 4, 3) := by decide +kernel
theorem d_Md_has_76 : decode prog_14_method_73_code 76 = .ok (.iconst 0, 1) := by decide +kernel
theorem d_Md_has_77 : decode prog_14_method_73_code 77 = .ok (.ireturn, 1) := by decide +kernel
theorem d_Md_has_78 : decode prog_14_method_73_code 78 = .ok (.iload_n 3, 1) := by decide +kernel
theorem d_Md_has_79 : decode prog_14_method_73_code 79 = .ok (.iconst 2, 1) := by decide +kernel
theorem d_Md_has_80 : decode prog_14_method_73_code 80 = .ok (.if_icmp .ne 9, 3) := by decide +kernel
theorem d_Md_has_83 : decode prog_14_method_73_code 83 = .ok (.aload_n 0, 1) := by decide +kernel
theorem d_Md_has_84 : decode prog_14_method_73_code 84 = .ok (.iload_n 2, 1) := by decide +kernel
theorem d_Md_has_85 : decode prog_14_method_73_code 85 = .ok (.invokevirtual 379, 3) := by decide +kernel
theorem d_Md_has_88 : decode prog_14_method_73_code 88 = .ok (.ireturn, 1) := by decide +kernel
theorem d_Md_has_89 : decode prog_14_method_73_code 89 = .ok (.iconst 0, 1) := by decide +kernel
theorem d_Md_has_90 : decode prog_14_method_73_code 90 = .ok (.istore 4, 2) := by decide +kernel
theorem d_Md_has_92 : decode prog_14_method_73_code 92 = .ok (.iload_n 2, 1) := by decide +kernel
theorem d_Md_has_93 : decode prog_14_method_73_code 93 = .ok (.iconst 1, 1) := by decide +kernel
theorem d_Md_has_94 : decode prog_14_method_73_code 94 = .ok (.iadd, 1) := by decide +kernel
theorem d_Md_has_95 : decode prog_14_method_73_code 95 = .ok (.istore 5, 2) := by decide +kernel
theorem d_Md_has_97 : decode prog_14_method_73_code 97 = .ok (.iload 5, 2) := by decide +kernel
theorem d_Md_has_99 : decode prog_14_method_73_code 99 = .ok (.aload_n 0, 1) := by decide +kernel
theorem d_Md_has_100 : decode prog_14_method_73_code 100 = .ok (.getfield 52, 3) := by decide +kernel
theorem d_Md_has_103 : decode prog_14_method_73_code 103 = .ok (.if_icmp .ge 34, 3) := by decide +kernel
theorem d_Md_has_106 : decode prog_14_method_73_code 106 = .ok (.aload_n 0, 1) := by decide +kernel
theorem d_Md_has_107 : decode prog_14_method_73_code 107 = .ok (.getfield 122, 3) := by decide +kernel
theorem d_Md_has_110 : decode prog_14_method_73_code 110 = .ok (.iload_n 1, 1) := by decide +kernel
theorem d_Md_has_111 : decode prog_14_method_73_code 111 = .ok (.aaload, 1) := by decide +kernel
theorem d_Md_has_112 : decode prog_14_method_73_code 112 = .ok (.iload 5, 2) := by decide +kernel
theorem d_Md_has_114 : decode prog_14_method_73_code 114 = .ok (.baload, 1) := by decide +kernel
theorem d_Md_has_115 : decode prog_14_method_73_code 115 = .ok (.ifCond .eq 16, 3) := by decide +kernel
theorem d_Md_has_118 : decode prog_14_method_73_code 118 = .ok (.aload_n 0, 1) := by decide +kernel
theorem d_Md_has_119 : decode prog_14_method_73_code 119 = .ok (.iload 5, 2) := by decide +kernel
theorem d_Md_has_121 : decode prog_14_method_73_code 121 = .ok (.iload_n 2, 1) := by decide +kernel
theorem d_Md_has_122 : decode prog_14_method_73_code 122 = .ok (.invokevirtual 421, 3) := by decide +kernel
theorem d_Md_has_125 : decode prog_14_method_73_code 125 = .ok (.ifCond .eq 6, 3) := by decide +kernel
theorem d_Md_has_128 : decode prog_14_method_73_code 128 = .ok (.iinc 4 1, 3) := by decide +kernel
theorem d_Md_has_131 : decode prog_14_method_73_code 131 = .ok (.iinc 5 1, 3) := by decide +kernel
theorem d_Md_has_134 : decode prog_14_method_73_code 134 = .ok (.goto (-37), 3) := by decide +kernel
theorem d_Md_has_137 : decode prog_14_method_73_code 137 = .ok (.iload 4, 2) := by decide +kernel
theorem d_Md_has_139 : decode prog_14_method_73_code 139 = .ok (.ireturn, 1) := by decide +kernel
def y_Md_pull : MethodName := ⟨"PatchStoreModel", "pull", "(III)I"⟩
abbrev c_Md_pull : Cond := (Jvm.Cond.code ({ cls := "PatchStoreModel", name := "pull", desc := "(III)I" } : Jvm.MethodName) prog_14_method_70_code (7 : Nat) (Option.some Jvm.ClassFile.FieldType.int))
abbrev ws_Md_pull : List Cond := c_Md_pull :: xg_1
theorem d_Md_pull_0 : decode prog_14_method_70_code 0 = .ok (.aload_n 0, 1) := by decide +kernel
theorem d_Md_pull_1 : decode prog_14_method_70_code 1 = .ok (.iconst 0, 1) := by decide +kernel
theorem d_Md_pull_2 : decode prog_14_method_70_code 2 = .ok (.putfield 18, 3) := by decide +kernel
theorem d_Md_pull_5 : decode prog_14_method_70_code 5 = .ok (.aload_n 0, 1) := by decide +kernel
theorem d_Md_pull_6 : decode prog_14_method_70_code 6 = .ok (.iconst 1, 1) := by decide +kernel
theorem d_Md_pull_7 : decode prog_14_method_70_code 7 = .ok (.iload_n 1, 1) := by decide +kernel
theorem d_Md_pull_8 : decode prog_14_method_70_code 8 = .ok (.ifCond .lt 19, 3) := by decide +kernel
theorem d_Md_pull_11 : decode prog_14_method_70_code 11 = .ok (.iload_n 1, 1) := by decide +kernel
theorem d_Md_pull_12 : decode prog_14_method_70_code 12 = .ok (.bipush 7, 2) := by decide +kernel
theorem d_Md_pull_14 : decode prog_14_method_70_code 14 = .ok (.if_icmp .gt 13, 3) := by decide +kernel
theorem d_Md_pull_17 : decode prog_14_method_70_code 17 = .ok (.iload_n 2, 1) := by decide +kernel
theorem d_Md_pull_18 : decode prog_14_method_70_code 18 = .ok (.ifCond .lt 9, 3) := by decide +kernel
theorem d_Md_pull_21 : decode prog_14_method_70_code 21 = .ok (.iload_n 2, 1) := by decide +kernel
theorem d_Md_pull_22 : decode prog_14_method_70_code 22 = .ok (.bipush 7, 2) := by decide +kernel
theorem d_Md_pull_24 : decode prog_14_method_70_code 24 = .ok (.if_icmp .le 7, 3) := by decide +kernel
theorem d_Md_pull_27 : decode prog_14_method_70_code 27 = .ok (.iconst 1, 1) := by decide +kernel
theorem d_Md_pull_28 : decode prog_14_method_70_code 28 = .ok (.goto 4, 3) := by decide +kernel
theorem d_Md_pull_31 : decode prog_14_method_70_code 31 = .ok (.iconst 0, 1) := by decide +kernel
theorem d_Md_pull_32 : decode prog_14_method_70_code 32 = .ok (.invokevirtual 278, 3) := by decide +kernel
theorem d_Md_pull_35 : decode prog_14_method_70_code 35 = .ok (.ifCond .ne 39, 3) := by decide +kernel
theorem d_Md_pull_38 : decode prog_14_method_70_code 38 = .ok (.aload_n 0, 1) := by decide +kernel
theorem d_Md_pull_39 : decode prog_14_method_70_code 39 = .ok (.iconst 1, 1) := by decide +kernel
theorem d_Md_pull_40 : decode prog_14_method_70_code 40 = .ok (.iload_n 3, 1) := by decide +kernel
theorem d_Md_pull_41 : decode prog_14_method_70_code 41 = .ok (.ifCond .lt 26, 3) := by decide +kernel
theorem d_Md_pull_44 : decode prog_14_method_70_code 44 = .ok (.iload_n 3, 1) := by decide +kernel
theorem d_Md_pull_45 : decode prog_14_method_70_code 45 = .ok (.aload_n 0, 1) := by decide +kernel
theorem d_Md_pull_46 : decode prog_14_method_70_code 46 = .ok (.getfield 52, 3) := by decide +kernel
theorem d_Md_pull_49 : decode prog_14_method_70_code 49 = .ok (.if_icmp .ge 14, 3) := by decide +kernel
theorem d_Md_pull_52 : decode prog_14_method_70_code 52 = .ok (.aload_n 0, 1) := by decide +kernel
theorem d_Md_pull_53 : decode prog_14_method_70_code 53 = .ok (.getfield 122, 3) := by decide +kernel
theorem d_Md_pull_56 : decode prog_14_method_70_code 56 = .ok (.iload_n 2, 1) := by decide +kernel
theorem d_Md_pull_57 : decode prog_14_method_70_code 57 = .ok (.aaload, 1) := by decide +kernel
theorem d_Md_pull_58 : decode prog_14_method_70_code 58 = .ok (.iload_n 3, 1) := by decide +kernel
theorem d_Md_pull_59 : decode prog_14_method_70_code 59 = .ok (.baload, 1) := by decide +kernel
theorem d_Md_pull_60 : decode prog_14_method_70_code 60 = .ok (.ifCond .ne 7, 3) := by decide +kernel
theorem d_Md_pull_63 : decode prog_14_method_70_code 63 = .ok (.iconst 1, 1) := by decide +kernel
theorem d_Md_pull_64 : decode prog_14_method_70_code 64 = .ok (.goto 4, 3) := by decide +kernel
theorem d_Md_pull_67 : decode prog_14_method_70_code 67 = .ok (.iconst 0, 1) := by decide +kernel
theorem d_Md_pull_68 : decode prog_14_method_70_code 68 = .ok (.invokevirtual 278, 3) := by decide +kernel
theorem d_Md_pull_71 : decode prog_14_method_70_code 71 = .ok (.ifCond .eq 5, 3) := by decide +kernel
theorem d_Md_pull_74 : decode prog_14_method_70_code 74 = .ok (.iconst 0, 1) := by decide +kernel
theorem d_Md_pull_75 : decode prog_14_method_70_code 75 = .ok (.ireturn, 1) := by decide +kernel
theorem d_Md_pull_76 : decode prog_14_method_70_code 76 = .ok (.iload_n 3, 1) := by decide +kernel
theorem d_Md_pull_77 : decode prog_14_method_70_code 77 = .ok (.ifCond .lt 9, 3) := by decide +kernel
theorem d_Md_pull_80 : decode prog_14_method_70_code 80 = .ok (.aload_n 0, 1) := by decide +kernel
theorem d_Md_pull_81 : decode prog_14_method_70_code 81 = .ok (.iload_n 3, 1) := by decide +kernel
theorem d_Md_pull_82 : decode prog_14_method_70_code 82 = .ok (.invokevirtual 379, 3) := by decide +kernel
theorem d_Md_pull_85 : decode prog_14_method_70_code 85 = .ok (.pop, 1) := by decide +kernel
theorem d_Md_pull_86 : decode prog_14_method_70_code 86 = .ok (.iconst 0, 1) := by decide +kernel
theorem d_Md_pull_87 : decode prog_14_method_70_code 87 = .ok (.istore 4, 2) := by decide +kernel
theorem d_Md_pull_89 : decode prog_14_method_70_code 89 = .ok (.iconst 0, 1) := by decide +kernel
theorem d_Md_pull_90 : decode prog_14_method_70_code 90 = .ok (.istore 5, 2) := by decide +kernel
theorem d_Md_pull_92 : decode prog_14_method_70_code 92 = .ok (.iload 5, 2) := by decide +kernel
theorem d_Md_pull_94 : decode prog_14_method_70_code 94 = .ok (.aload_n 0, 1) := by decide +kernel
theorem d_Md_pull_95 : decode prog_14_method_70_code 95 = .ok (.getfield 52, 3) := by decide +kernel
theorem d_Md_pull_98 : decode prog_14_method_70_code 98 = .ok (.if_icmp .ge 81, 3) := by decide +kernel
theorem d_Md_pull_101 : decode prog_14_method_70_code 101 = .ok (.iload_n 3, 1) := by decide +kernel
theorem d_Md_pull_102 : decode prog_14_method_70_code 102 = .ok (.ifCond .ge 15, 3) := by decide +kernel
theorem d_Md_pull_105 : decode prog_14_method_70_code 105 = .ok (.aload_n 0, 1) := by decide +kernel
theorem d_Md_pull_106 : decode prog_14_method_70_code 106 = .ok (.getfield 122, 3) := by decide +kernel
theorem d_Md_pull_109 : decode prog_14_method_70_code 109 = .ok (.iload_n 2, 1) := by decide +kernel
theorem d_Md_pull_110 : decode prog_14_method_70_code 110 = .ok (.aaload, 1) := by decide +kernel
theorem d_Md_pull_111 : decode prog_14_method_70_code 111 = .ok (.iload 5, 2) := by decide +kernel
theorem d_Md_pull_113 : decode prog_14_method_70_code 113 = .ok (.baload, 1) := by decide +kernel
theorem d_Md_pull_114 : decode prog_14_method_70_code 114 = .ok (.goto 24, 3) := by decide +kernel
theorem d_Md_pull_117 : decode prog_14_method_70_code 117 = .ok (.iload 5, 2) := by decide +kernel
theorem d_Md_pull_119 : decode prog_14_method_70_code 119 = .ok (.iload_n 3, 1) := by decide +kernel
theorem d_Md_pull_120 : decode prog_14_method_70_code 120 = .ok (.if_icmp .eq 13, 3) := by decide +kernel
theorem d_Md_pull_123 : decode prog_14_method_70_code 123 = .ok (.aload_n 0, 1) := by decide +kernel
theorem d_Md_pull_124 : decode prog_14_method_70_code 124 = .ok (.getfield 173, 3) := by decide +kernel
theorem d_Md_pull_127 : decode prog_14_method_70_code 127 = .ok (.iload 5, 2) := by decide +kernel
theorem d_Md_pull_129 : decode prog_14_method_70_code 129 = .ok (.baload, 1) := by decide +kernel
theorem d_Md_pull_130 : decode prog_14_method_70_code 130 = .ok (.ifCond .eq 7, 3) := by decide +kernel
theorem d_Md_pull_133 : decode prog_14_method_70_code 133 = .ok (.iconst 1, 1) := by decide +kernel
theorem d_Md_pull_134 : decode prog_14_method_70_code 134 = .ok (.goto 4, 3) := by decide +kernel
theorem d_Md_pull_137 : decode prog_14_method_70_code 137 = .ok (.iconst 0, 1) := by decide +kernel
theorem d_Md_pull_138 : decode prog_14_method_70_code 138 = .ok (.istore 6, 2) := by decide +kernel
theorem d_Md_pull_140 : decode prog_14_method_70_code 140 = .ok (.iload 6, 2) := by decide +kernel
theorem d_Md_pull_142 : decode prog_14_method_70_code 142 = .ok (.ifCond .eq 31, 3) := by decide +kernel
theorem d_Md_pull_145 : decode prog_14_method_70_code 145 = .ok (.aload_n 0, 1) := by decide +kernel
theorem d_Md_pull_146 : decode prog_14_method_70_code 146 = .ok (.getfield 122, 3) := by decide +kernel
theorem d_Md_pull_149 : decode prog_14_method_70_code 149 = .ok (.iload_n 1, 1) := by decide +kernel
theorem d_Md_pull_150 : decode prog_14_method_70_code 150 = .ok (.aaload, 1) := by decide +kernel
theorem d_Md_pull_151 : decode prog_14_method_70_code 151 = .ok (.iload 5, 2) := by decide +kernel
theorem d_Md_pull_153 : decode prog_14_method_70_code 153 = .ok (.baload, 1) := by decide +kernel
theorem d_Md_pull_154 : decode prog_14_method_70_code 154 = .ok (.ifCond .eq 6, 3) := by decide +kernel
theorem d_Md_pull_157 : decode prog_14_method_70_code 157 = .ok (.goto 16, 3) := by decide +kernel
theorem d_Md_pull_160 : decode prog_14_method_70_code 160 = .ok (.aload_n 0, 1) := by decide +kernel
theorem d_Md_pull_161 : decode prog_14_method_70_code 161 = .ok (.getfield 122, 3) := by decide +kernel
theorem d_Md_pull_164 : decode prog_14_method_70_code 164 = .ok (.iload_n 1, 1) := by decide +kernel
theorem d_Md_pull_165 : decode prog_14_method_70_code 165 = .ok (.aaload, 1) := by decide +kernel
theorem d_Md_pull_166 : decode prog_14_method_70_code 166 = .ok (.iload 5, 2) := by decide +kernel
theorem d_Md_pull_168 : decode prog_14_method_70_code 168 = .ok (.iconst 1, 1) := by decide +kernel
theorem d_Md_pull_169 : decode prog_14_method_70_code 169 = .ok (.bastore, 1) := by decide +kernel
theorem d_Md_pull_170 : decode prog_14_method_70_code 170 = .ok (.iinc 4 1, 3) := by decide +kernel
theorem d_Md_pull_173 : decode prog_14_method_70_code 173 = .ok (.iinc 5 1, 3) := by decide +kernel
theorem d_Md_pull_176 : decode prog_14_method_70_code 176 = .ok (.goto (-84), 3) := by decide +kernel
theorem d_Md_pull_179 : decode prog_14_method_70_code 179 = .ok (.aload_n 0, 1) := by decide +kernel
theorem d_Md_pull_180 : decode prog_14_method_70_code 180 = .ok (.dup, 1) := by decide +kernel
theorem d_Md_pull_181 : decode prog_14_method_70_code 181 = .ok (.getfield 125, 3) := by decide +kernel
theorem d_Md_pull_184 : decode prog_14_method_70_code 184 = .ok (.iconst 1, 1) := by decide +kernel
theorem d_Md_pull_185 : decode prog_14_method_70_code 185 = .ok (.iadd, 1) := by decide +kernel
theorem d_Md_pull_186 : decode prog_14_method_70_code 186 = .ok (.putfield 125, 3) := by decide +kernel
theorem d_Md_pull_189 : decode prog_14_method_70_code 189 = .ok (.iload 4, 2) := by decide +kernel
theorem d_Md_pull_191 : decode prog_14_method_70_code 191 = .ok (.ireturn, 1) := by decide +kernel
