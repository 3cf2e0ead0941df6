section
/-! 34.model4.lean.txt -/
theorem gw_1713 : (Jvm.Cond.methodLink "PatchStoreModel" (444 : Nat) ({ cls := "PatchStoreModel", name := "take", desc := "([BII)I" } : Jvm.MethodName)) ∈ xg_1 := xg_s8 33 rfl rfl
theorem gw_1715 : (Jvm.Cond.instanceMethod ({ cls := "PatchStoreModel", name := "take", desc := "([BII)I" } : Jvm.MethodName)) ∈ xg_1 := xg_s8 35 rfl rfl
theorem gw_1716 : (Jvm.Cond.code ({ cls := "PatchStoreModel", name := "take", desc := "([BII)I" } : Jvm.MethodName) prog_14_method_27_code (13 : Nat) (Option.some Jvm.ClassFile.FieldType.int)) ∈ xg_1 := xg_s8 36 rfl rfl
theorem gw_1717 : (Jvm.Cond.methodLink "PatchStoreModel" (343 : Nat) ({ cls := "PatchStoreModel", name := "formed", desc := "([BI)Z" } : Jvm.MethodName)) ∈ xg_1 := xg_s8 37 rfl rfl
theorem gw_1719 : (Jvm.Cond.instanceMethod ({ cls := "PatchStoreModel", name := "formed", desc := "([BI)Z" } : Jvm.MethodName)) ∈ xg_1 := xg_s8 39 rfl rfl
theorem gw_1720 : (Jvm.Cond.code ({ cls := "PatchStoreModel", name := "formed", desc := "([BI)Z" } : Jvm.MethodName) prog_14_method_16_code (6 : Nat) (Option.some Jvm.ClassFile.FieldType.boolean)) ∈ xg_1 := xg_s8 40 rfl rfl
theorem gw_1721 : (Jvm.Cond.methodLink "PatchStoreModel" (301 : Nat) ({ cls := "PatchStoreModel", name := "next", desc := "(I)I" } : Jvm.MethodName)) ∈ xg_1 := xg_s8 41 rfl rfl
theorem gw_1723 : (Jvm.Cond.instanceMethod ({ cls := "PatchStoreModel", name := "next", desc := "(I)I" } : Jvm.MethodName)) ∈ xg_1 := xg_s8 43 rfl rfl
theorem gw_1724 : (Jvm.Cond.code ({ cls := "PatchStoreModel", name := "next", desc := "(I)I" } : Jvm.MethodName) prog_14_method_10_code (4 : Nat) (Option.some Jvm.ClassFile.FieldType.int)) ∈ xg_1 := xg_s8 44 rfl rfl
theorem gw_1748 : (Jvm.Cond.methodLink "PatchStoreModel" (347 : Nat) ({ cls := "PatchStoreModel", name := "bad", desc := "(I)I" } : Jvm.MethodName)) ∈ xg_1 := xg_s8 68 rfl rfl
theorem gw_1750 : (Jvm.Cond.instanceMethod ({ cls := "PatchStoreModel", name := "bad", desc := "(I)I" } : Jvm.MethodName)) ∈ xg_1 := xg_s8 70 rfl rfl
theorem gw_1751 : (Jvm.Cond.code ({ cls := "PatchStoreModel", name := "bad", desc := "(I)I" } : Jvm.MethodName) prog_14_method_28_code (2 : Nat) (Option.some Jvm.ClassFile.FieldType.int)) ∈ xg_1 := xg_s8 71 rfl rfl
theorem gw_2274 : (Jvm.Cond.methodLink "PatchStoreModel" (492 : Nat) ({ cls := "PatchStoreModel", name := "many", desc := "(I)I" } : Jvm.MethodName)) ∈ xg_1 := xg_s10 114 rfl rfl
theorem gw_2276 : (Jvm.Cond.instanceMethod ({ cls := "PatchStoreModel", name := "many", desc := "(I)I" } : Jvm.MethodName)) ∈ xg_1 := xg_s10 116 rfl rfl
theorem gw_2277 : (Jvm.Cond.code ({ cls := "PatchStoreModel", name := "many", desc := "(I)I" } : Jvm.MethodName) prog_14_method_71_code (4 : Nat) (Option.some Jvm.ClassFile.FieldType.int)) ∈ xg_1 := xg_s10 117 rfl rfl
def y_Md_next : MethodName := ⟨"PatchStoreModel", "next", "(I)I"⟩
abbrev c_Md_next : Cond := (Jvm.Cond.code ({ cls := "PatchStoreModel", name := "next", desc := "(I)I" } : Jvm.MethodName) prog_14_method_10_code (4 : Nat) (Option.some Jvm.ClassFile.FieldType.int))
abbrev ws_Md_next : List Cond := c_Md_next :: xg_1
theorem d_Md_next_0 : decode prog_14_method_10_code 0 = .ok (.aload_n 0, 1) := by decide +kernel
theorem d_Md_next_1 : decode prog_14_method_10_code 1 = .ok (.getfield 141, 3) := by decide +kernel
theorem d_Md_next_4 : decode prog_14_method_10_code 4 = .ok (.aload_n 0, 1) := by decide +kernel
theorem d_Md_next_5 : decode prog_14_method_10_code 5 = .ok (.getfield 138, 3) := by decide +kernel
theorem d_Md_next_8 : decode prog_14_method_10_code 8 = .ok (.isub, 1) := by decide +kernel
theorem d_Md_next_9 : decode prog_14_method_10_code 9 = .ok (.iload_n 1, 1) := by decide +kernel
theorem d_Md_next_10 : decode prog_14_method_10_code 10 = .ok (.if_icmp .ge 18, 3) := by decide +kernel
theorem d_Md_next_13 : decode prog_14_method_10_code 13 = .ok (.aload_n 0, 1) := by decide +kernel
theorem d_Md_next_14 : decode prog_14_method_10_code 14 = .ok (.iconst 1, 1) := by decide +kernel
theorem d_Md_next_15 : decode prog_14_method_10_code 15 = .ok (.putfield 144, 3) := by decide +kernel
theorem d_Md_next_18 : decode prog_14_method_10_code 18 = .ok (.aload_n 0, 1) := by decide +kernel
theorem d_Md_next_19 : decode prog_14_method_10_code 19 = .ok (.aload_n 0, 1) := by decide +kernel
theorem d_Md_next_20 : decode prog_14_method_10_code 20 = .ok (.getfield 141, 3) := by decide +kernel
theorem d_Md_next_23 : decode prog_14_method_10_code 23 = .ok (.putfield 138, 3) := by decide +kernel
theorem d_Md_next_26 : decode prog_14_method_10_code 26 = .ok (.iconst 0, 1) := by decide +kernel
theorem d_Md_next_27 : decode prog_14_method_10_code 27 = .ok (.ireturn, 1) := by decide +kernel
theorem d_Md_next_28 : decode prog_14_method_10_code 28 = .ok (.iconst 0, 1) := by decide +kernel
theorem d_Md_next_29 : decode prog_14_method_10_code 29 = .ok (.istore_n 2, 1) := by decide +kernel
theorem d_Md_next_30 : decode prog_14_method_10_code 30 = .ok (.iconst 0, 1) := by decide +kernel
theorem d_Md_next_31 : decode prog_14_method_10_code 31 = .ok (.istore_n 3, 1) := by decide +kernel
theorem d_Md_next_32 : decode prog_14_method_10_code 32 = .ok (.iload_n 3, 1) := by decide +kernel
theorem d_Md_next_33 : decode prog_14_method_10_code 33 = .ok (.iload_n 1, 1) := by decide +kernel
theorem d_Md_next_34 : decode prog_14_method_10_code 34 = .ok (.if_icmp .ge 35, 3) := by decide +kernel
theorem d_Md_next_37 : decode prog_14_method_10_code 37 = .ok (.iload_n 2, 1) := by decide +kernel
theorem d_Md_next_38 : decode prog_14_method_10_code 38 = .ok (.bipush 8, 2) := by decide +kernel
theorem d_Md_next_40 : decode prog_14_method_10_code 40 = .ok (.ishl, 1) := by decide +kernel
theorem d_Md_next_41 : decode prog_14_method_10_code 41 = .ok (.aload_n 0, 1) := by decide +kernel
theorem d_Md_next_42 : decode prog_14_method_10_code 42 = .ok (.getfield 135, 3) := by decide +kernel
theorem d_Md_next_45 : decode prog_14_method_10_code 45 = .ok (.aload_n 0, 1) := by decide +kernel
theorem d_Md_next_46 : decode prog_14_method_10_code 46 = .ok (.dup, 1) := by decide +kernel
theorem d_Md_next_47 : decode prog_14_method_10_code 47 = .ok (.getfield 138, 3) := by decide +kernel
theorem d_Md_next_50 : decode prog_14_method_10_code 50 = .ok (.dup_x1, 1) := by decide +kernel
theorem d_Md_next_51 : decode prog_14_method_10_code 51 = .ok (.iconst 1, 1) := by decide +kernel
theorem d_Md_next_52 : decode prog_14_method_10_code 52 = .ok (.iadd, 1) := by decide +kernel
theorem d_Md_next_53 : decode prog_14_method_10_code 53 = .ok (.putfield 138, 3) := by decide +kernel
theorem d_Md_next_56 : decode prog_14_method_10_code 56 = .ok (.baload, 1) := by decide +kernel
theorem d_Md_next_57 : decode prog_14_method_10_code 57 = .ok (.sipush 255, 3) := by decide +kernel
theorem d_Md_next_60 : decode prog_14_method_10_code 60 = .ok (.iand, 1) := by decide +kernel
theorem d_Md_next_61 : decode prog_14_method_10_code 61 = .ok (.ior, 1) := by decide +kernel
theorem d_Md_next_62 : decode prog_14_method_10_code 62 = .ok (.istore_n 2, 1) := by decide +kernel
theorem d_Md_next_63 : decode prog_14_method_10_code 63 = .ok (.iinc 3 1, 3) := by decide +kernel
theorem d_Md_next_66 : decode prog_14_method_10_code 66 = .ok (.goto (-34), 3) := by decide +kernel
theorem d_Md_next_69 : decode prog_14_method_10_code 69 = .ok (.iload_n 2, 1) := by decide +kernel
theorem d_Md_next_70 : decode prog_14_method_10_code 70 = .ok (.ireturn, 1) := by decide +kernel
def y_Md_formed : MethodName := ⟨"PatchStoreModel", "formed", "([BI)Z"⟩
abbrev c_Md_formed : Cond := (Jvm.Cond.code ({ cls := "PatchStoreModel", name := "formed", desc := "([BI)Z" } : Jvm.MethodName) prog_14_method_16_code (6 : Nat) (Option.some Jvm.ClassFile.FieldType.boolean))
abbrev ws_Md_formed : List Cond := c_Md_formed :: xg_1
theorem d_Md_formed_0 : decode prog_14_method_16_code 0 = .ok (.aload_n 0, 1) := by decide +kernel
theorem d_Md_formed_1 : decode prog_14_method_16_code 1 = .ok (.aload_n 1, 1) := by decide +kernel
theorem d_Md_formed_2 : decode prog_14_method_16_code 2 = .ok (.putfield 135, 3) := by decide +kernel
theorem d_Md_formed_5 : decode prog_14_method_16_code 5 = .ok (.aload_n 0, 1) := by decide +kernel
theorem d_Md_formed_6 : decode prog_14_method_16_code 6 = .ok (.iconst 0, 1) := by decide +kernel
theorem d_Md_formed_7 : decode prog_14_method_16_code 7 = .ok (.putfield 138, 3) := by decide +kernel
theorem d_Md_formed_10 : decode prog_14_method_16_code 10 = .ok (.aload_n 0, 1) := by decide +kernel
theorem d_Md_formed_11 : decode prog_14_method_16_code 11 = .ok (.iload_n 2, 1) := by decide +kernel
theorem d_Md_formed_12 : decode prog_14_method_16_code 12 = .ok (.putfield 141, 3) := by decide +kernel
theorem d_Md_formed_15 : decode prog_14_method_16_code 15 = .ok (.aload_n 0, 1) := by decide +kernel
theorem d_Md_formed_16 : decode prog_14_method_16_code 16 = .ok (.iconst 0, 1) := by decide +kernel
theorem d_Md_formed_17 : decode prog_14_method_16_code 17 = .ok (.putfield 144, 3) := by decide +kernel
theorem d_Md_formed_20 : decode prog_14_method_16_code 20 = .ok (.aload_n 0, 1) := by decide +kernel
theorem d_Md_formed_21 : decode prog_14_method_16_code 21 = .ok (.iconst 2, 1) := by decide +kernel
theorem d_Md_formed_22 : decode prog_14_method_16_code 22 = .ok (.invokevirtual 301, 3) := by decide +kernel
theorem d_Md_formed_25 : decode prog_14_method_16_code 25 = .ok (.istore_n 3, 1) := by decide +kernel
theorem d_Md_formed_26 : decode prog_14_method_16_code 26 = .ok (.iconst 0, 1) := by decide +kernel
theorem d_Md_formed_27 : decode prog_14_method_16_code 27 = .ok (.istore 4, 2) := by decide +kernel
theorem d_Md_formed_29 : decode prog_14_method_16_code 29 = .ok (.iload 4, 2) := by decide +kernel
theorem d_Md_formed_31 : decode prog_14_method_16_code 31 = .ok (.iload_n 3, 1) := by decide +kernel
theorem d_Md_formed_32 : decode prog_14_method_16_code 32 = .ok (.if_icmp .ge 63, 3) := by decide +kernel
theorem d_Md_formed_35 : decode prog_14_method_16_code 35 = .ok (.aload_n 0, 1) := by decide +kernel
theorem d_Md_formed_36 : decode prog_14_method_16_code 36 = .ok (.getfield 144, 3) := by decide +kernel
theorem d_Md_formed_39 : decode prog_14_method_16_code 39 = .ok (.ifCond .ne 56, 3) := by decide +kernel
theorem d_Md_formed_42 : decode prog_14_method_16_code 42 = .ok (.aload_n 0, 1) := by decide +kernel
theorem d_Md_formed_43 : decode prog_14_method_16_code 43 = .ok (.bipush 32, 2) := by decide +kernel
theorem d_Md_formed_45 : decode prog_14_method_16_code 45 = .ok (.invokevirtual 297, 3) := by decide +kernel
theorem d_Md_formed_48 : decode prog_14_method_16_code 48 = .ok (.aload_n 0, 1) := by decide +kernel
theorem d_Md_formed_49 : decode prog_14_method_16_code 49 = .ok (.getfield 144, 3) := by decide +kernel
theorem d_Md_formed_52 : decode prog_14_method_16_code 52 = .ok (.ifCond .ne 37, 3) := by decide +kernel
theorem d_Md_formed_55 : decode prog_14_method_16_code 55 = .ok (.iload 4, 2) := by decide +kernel
theorem d_Md_formed_57 : decode prog_14_method_16_code 57 = .ok (.ifCond .le 32, 3) := by decide +kernel
theorem d_Md_formed_60 : decode prog_14_method_16_code 60 = .ok (.aload_n 1, 1) := by decide +kernel
theorem d_Md_formed_61 : decode prog_14_method_16_code 61 = .ok (.aload_n 0, 1) := by decide +kernel
theorem d_Md_formed_62 : decode prog_14_method_16_code 62 = .ok (.getfield 138, 3) := by decide +kernel
theorem d_Md_formed_65 : decode prog_14_method_16_code 65 = .ok (.bipush 64, 2) := by decide +kernel
theorem d_Md_formed_67 : decode prog_14_method_16_code 67 = .ok (.isub, 1) := by decide +kernel
theorem d_Md_formed_68 : decode prog_14_method_16_code 68 = .ok (.aload_n 1, 1) := by decide +kernel
theorem d_Md_formed_69 : decode prog_14_method_16_code 69 = .ok (.aload_n 0, 1) := by decide +kernel
theorem d_Md_formed_70 : decode prog_14_method_16_code 70 = .ok (.getfield 138, 3) := by decide +kernel
theorem d_Md_formed_73 : decode prog_14_method_16_code 73 = .ok (.bipush 32, 2) := by decide +kernel
theorem d_Md_formed_75 : decode prog_14_method_16_code 75 = .ok (.isub, 1) := by decide +kernel
theorem d_Md_formed_76 : decode prog_14_method_16_code 76 = .ok (.bipush 32, 2) := by decide +kernel
theorem d_Md_formed_78 : decode prog_14_method_16_code 78 = .ok (.invokestatic 293, 3) := by decide +kernel
theorem d_Md_formed_81 : decode prog_14_method_16_code 81 = .ok (.ifCond .lt 8, 3) := by decide +kernel
theorem d_Md_formed_84 : decode prog_14_method_16_code 84 = .ok (.aload_n 0, 1) := by decide +kernel
theorem d_Md_formed_85 : decode prog_14_method_16_code 85 = .ok (.iconst 1, 1) := by decide +kernel
theorem d_Md_formed_86 : decode prog_14_method_16_code 86 = .ok (.putfield 144, 3) := by decide +kernel
theorem d_Md_formed_89 : decode prog_14_method_16_code 89 = .ok (.iinc 4 1, 3) := by decide +kernel
theorem d_Md_formed_92 : decode prog_14_method_16_code 92 = .ok (.goto (-63), 3) := by decide +kernel
theorem d_Md_formed_95 : decode prog_14_method_16_code 95 = .ok (.aload_n 0, 1) := by decide +kernel
theorem d_Md_formed_96 : decode prog_14_method_16_code 96 = .ok (.iconst 2, 1) := by decide +kernel
theorem d_Md_formed_97 : decode prog_14_method_16_code 97 = .ok (.invokevirtual 301, 3) := by decide +kernel
theorem d_Md_formed_100 : decode prog_14_method_16_code 100 = .ok (.istore 4, 2) := by decide +kernel
theorem d_Md_formed_102 : decode prog_14_method_16_code 102 = .ok (.iload 4, 2) := by decide +kernel
theorem d_Md_formed_104 : decode prog_14_method_16_code 104 = .ok (.ifCond .ne 8, 3) := by decide +kernel
theorem d_Md_formed_107 : decode prog_14_method_16_code 107 = .ok (.aload_n 0, 1) := by decide +kernel
theorem d_Md_formed_108 : decode prog_14_method_16_code 108 = .ok (.iconst 1, 1) := by decide +kernel
theorem d_Md_formed_109 : decode prog_14_method_16_code 109 = .ok (.putfield 144, 3) := by decide +kernel
theorem d_Md_formed_112 : decode prog_14_method_16_code 112 = .ok (.iconst 0, 1) := by decide +kernel
theorem d_Md_formed_113 : decode prog_14_method_16_code 113 = .ok (.istore 5, 2) := by decide +kernel
theorem d_Md_formed_115 : decode prog_14_method_16_code 115 = .ok (.iload 5, 2) := by decide +kernel
theorem d_Md_formed_117 : decode prog_14_method_16_code 117 = .ok (.iload 4, 2) := by decide +kernel
theorem d_Md_formed_119 : decode prog_14_method_16_code 119 = .ok (.if_icmp .ge 20, 3) := by decide +kernel
theorem d_Md_formed_122 : decode prog_14_method_16_code 122 = .ok (.aload_n 0, 1) := by decide +kernel
theorem d_Md_formed_123 : decode prog_14_method_16_code 123 = .ok (.getfield 144, 3) := by decide +kernel
theorem d_Md_formed_126 : decode prog_14_method_16_code 126 = .ok (.ifCond .ne 13, 3) := by decide +kernel
theorem d_Md_formed_129 : decode prog_14_method_16_code 129 = .ok (.aload_n 0, 1) := by decide +kernel
theorem d_Md_formed_130 : decode prog_14_method_16_code 130 = .ok (.invokevirtual 314, 3) := by decide +kernel
theorem d_Md_formed_133 : decode prog_14_method_16_code 133 = .ok (.iinc 5 1, 3) := by decide +kernel
theorem d_Md_formed_136 : decode prog_14_method_16_code 136 = .ok (.goto (-21), 3) := by decide +kernel
theorem d_Md_formed_139 : decode prog_14_method_16_code 139 = .ok (.aload_n 0, 1) := by decide +kernel
theorem d_Md_formed_140 : decode prog_14_method_16_code 140 = .ok (.getfield 144, 3) := by decide +kernel
theorem d_Md_formed_143 : decode prog_14_method_16_code 143 = .ok (.ifCond .ne 18, 3) := by decide +kernel
theorem d_Md_formed_146 : decode prog_14_method_16_code 146 = .ok (.aload_n 0, 1) := by decide +kernel
theorem d_Md_formed_147 : decode prog_14_method_16_code 147 = .ok (.getfield 138, 3) := by decide +kernel
theorem d_Md_formed_150 : decode prog_14_method_16_code 150 = .ok (.aload_n 0, 1) := by decide +kernel
theorem d_Md_formed_151 : decode prog_14_method_16_code 151 = .ok (.getfield 141, 3) := by decide +kernel
theorem d_Md_formed_154 : decode prog_14_method_16_code 154 = .ok (.if_icmp .ne 7, 3) := by decide +kernel
theorem d_Md_formed_157 : decode prog_14_method_16_code 157 = .ok (.iconst 1, 1) := by decide +kernel
theorem d_Md_formed_158 : decode prog_14_method_16_code 158 = .ok (.goto 4, 3) := by decide +kernel
theorem d_Md_formed_161 : decode prog_14_method_16_code 161 = .ok (.iconst 0, 1) := by decide +kernel
theorem d_Md_formed_162 : decode prog_14_method_16_code 162 = .ok (.ireturn, 1) := by decide +kernel
def y_Md_bad : MethodName := ⟨"PatchStoreModel", "bad", "(I)I"⟩
abbrev c_Md_bad : Cond := (Jvm.Cond.code ({ cls := "PatchStoreModel", name := "bad", desc := "(I)I" } : Jvm.MethodName) prog_14_method_28_code (2 : Nat) (Option.some Jvm.ClassFile.FieldType.int))
abbrev ws_Md_bad : List Cond := c_Md_bad :: xg_1
theorem d_Md_bad_0 : decode prog_14_method_28_code 0 = .ok (.aload_n 0, 1) := by decide +kernel
theorem d_Md_bad_1 : decode prog_14_method_28_code 1 = .ok (.iload_n 1, 1) := by decide +kernel
theorem d_Md_bad_2 : decode prog_14_method_28_code 2 = .ok (.putfield 21, 3) := by decide +kernel
theorem d_Md_bad_5 : decode prog_14_method_28_code 5 = .ok (.iconst (-1), 1) := by decide +kernel
theorem d_Md_bad_6 : decode prog_14_method_28_code 6 = .ok (.ireturn, 1) := by decide +kernel
def y_Md_take : MethodName := ⟨"PatchStoreModel", "take", "([BII)I"⟩
abbrev c_Md_take : Cond := (Jvm.Cond.code ({ cls := "PatchStoreModel", name := "take", desc := "([BII)I" } : Jvm.MethodName) prog_14_method_27_code (13 : Nat) (Option.some Jvm.ClassFile.FieldType.int))
abbrev ws_Md_take : List Cond := c_Md_take :: xg_1
theorem d_Md_take_0 : decode prog_14_method_27_code 0 = .ok (.aload_n 0, 1) := by decide +kernel
theorem d_Md_take_1 : decode prog_14_method_27_code 1 = .ok (.aload_n 1, 1) := by decide +kernel
theorem d_Md_take_2 : decode prog_14_method_27_code 2 = .ok (.iload_n 2, 1) := by decide +kernel
theorem d_Md_take_3 : decode prog_14_method_27_code 3 = .ok (.invokevirtual 343, 3) := by decide +kernel
theorem d_Md_take_6 : decode prog_14_method_27_code 6 = .ok (.ifCond .ne 9, 3) := by decide +kernel
theorem d_Md_take_9 : decode prog_14_method_27_code 9 = .ok (.aload_n 0, 1) := by decide +kernel
theorem d_Md_take_10 : decode prog_14_method_27_code 10 = .ok (.iconst 1, 1) := by decide +kernel
theorem d_Md_take_11 : decode prog_14_method_27_code 11 = .ok (.invokevirtual 347, 3) := by decide +kernel
theorem d_Md_take_14 : decode prog_14_method_27_code 14 = .ok (.ireturn, 1) := by decide +kernel
theorem d_Md_take_15 : decode prog_14_method_27_code 15 = .ok (.aload_n 0, 1) := by decide +kernel
theorem d_Md_take_16 : decode prog_14_method_27_code 16 = .ok (.iload_n 3, 1) := by decide +kernel
theorem d_Md_take_17 : decode prog_14_method_27_code 17 = .ok (.invokevirtual 350, 3) := by decide +kernel
theorem d_Md_take_20 : decode prog_14_method_27_code 20 = .ok (.ifCond .ne 9, 3) := by decide +kernel
theorem d_Md_take_23 : decode prog_14_method_27_code 23 = .ok (.aload_n 0, 1) := by decide +kernel
theorem d_Md_take_24 : decode prog_14_method_27_code 24 = .ok (.iconst 2, 1) := by decide +kernel
theorem d_Md_take_25 : decode prog_14_method_27_code 25 = .ok (.invokevirtual 347, 3) := by decide +kernel
theorem d_Md_take_28 : decode prog_14_method_27_code 28 = .ok (.ireturn, 1) := by decide +kernel
theorem d_Md_take_29 : decode prog_14_method_27_code 29 = .ok (.aload_n 0, 1) := by decide +kernel
theorem d_Md_take_30 : decode prog_14_method_27_code 30 = .ok (.aload_n 1, 1) := by decide +kernel
theorem d_Md_take_31 : decode prog_14_method_27_code 31 = .ok (.iconst 0, 1) := by decide +kernel
theorem d_Md_take_32 : decode prog_14_method_27_code 32 = .ok (.iload_n 2, 1) := by decide +kernel
theorem d_Md_take_33 : decode prog_14_method_27_code 33 = .ok (.aload_n 0, 1) := by decide +kernel
theorem d_Md_take_34 : decode prog_14_method_27_code 34 = .ok (.getfield 167, 3) := by decide +kernel
theorem d_Md_take_37 : decode prog_14_method_27_code 37 = .ok (.invokevirtual 354, 3) := by decide +kernel
theorem d_Md_take_40 : decode prog_14_method_27_code 40 = .ok (.aload_n 0, 1) := by decide +kernel
theorem d_Md_take_41 : decode prog_14_method_27_code 41 = .ok (.aload_n 0, 1) := by decide +kernel
theorem d_Md_take_42 : decode prog_14_method_27_code 42 = .ok (.getfield 167, 3) := by decide +kernel
theorem d_Md_take_45 : decode prog_14_method_27_code 45 = .ok (.iconst 0, 1) := by decide +kernel
theorem d_Md_take_46 : decode prog_14_method_27_code 46 = .ok (.invokevirtual 317, 3) := by decide +kernel
theorem d_Md_take_49 : decode prog_14_method_27_code 49 = .ok (.istore 4, 2) := by decide +kernel
theorem d_Md_take_51 : decode prog_14_method_27_code 51 = .ok (.iload 4, 2) := by decide +kernel
theorem d_Md_take_53 : decode prog_14_method_27_code 53 = .ok (.ifCond .lt 65, 3) := by decide +kernel
theorem d_Md_take_56 : decode prog_14_method_27_code 56 = .ok (.aload_n 0, 1) := by decide +kernel
theorem d_Md_take_57 : decode prog_14_method_27_code 57 = .ok (.getfield 38, 3) := by decide +kernel
theorem d_Md_take_60 : decode prog_14_method_27_code 60 = .ok (.iload 4, 2) := by decide +kernel
theorem d_Md_take_62 : decode prog_14_method_27_code 62 = .ok (.iaload, 1) := by decide +kernel
theorem d_Md_take_63 : decode prog_14_method_27_code 63 = .ok (.istore 5, 2) := by decide +kernel
theorem d_Md_take_65 : decode prog_14_method_27_code 65 = .ok (.iload 5, 2) := by decide +kernel
theorem d_Md_take_67 : decode prog_14_method_27_code 67 = .ok (.aload_n 0, 1) := by decide +kernel
theorem d_Md_take_68 : decode prog_14_method_27_code 68 = .ok (.getfield 38, 3) := by decide +kernel
theorem d_Md_take_71 : decode prog_14_method_27_code 71 = .ok (.iload 4, 2) := by decide +kernel
theorem d_Md_take_73 : decode prog_14_method_27_code 73 = .ok (.iconst 1, 1) := by decide +kernel
theorem d_Md_take_74 : decode prog_14_method_27_code 74 = .ok (.iadd, 1) := by decide +kernel
theorem d_Md_take_75 : decode prog_14_method_27_code 75 = .ok (.iaload, 1) := by decide +kernel
theorem d_Md_take_76 : decode prog_14_method_27_code 76 = .ok (.if_icmp .ge 32, 3) := by decide +kernel
theorem d_Md_take_79 : decode prog_14_method_27_code 79 = .ok (.aload_n 0, 1) := by decide +kernel
theorem d_Md_take_80 : decode prog_14_method_27_code 80 = .ok (.getfield 122, 3) := by decide +kernel
theorem d_Md_take_83 : decode prog_14_method_27_code 83 = .ok (.iload_n 3, 1) := by decide +kernel
theorem d_Md_take_84 : decode prog_14_method_27_code 84 = .ok (.aaload, 1) := by decide +kernel
theorem d_Md_take_85 : decode prog_14_method_27_code 85 = .ok (.aload_n 0, 1) := by decide +kernel
theorem d_Md_take_86 : decode prog_14_method_27_code 86 = .ok (.getfield 49, 3) := by decide +kernel
theorem d_Md_take_89 : decode prog_14_method_27_code 89 = .ok (.iload 5, 2) := by decide +kernel
theorem d_Md_take_91 : decode prog_14_method_27_code 91 = .ok (.iaload, 1) := by decide +kernel
theorem d_Md_take_92 : decode prog_14_method_27_code 92 = .ok (.baload, 1) := by decide +kernel
theorem d_Md_take_93 : decode prog_14_method_27_code 93 = .ok (.ifCond .ne 9, 3) := by decide +kernel
theorem d_Md_take_96 : decode prog_14_method_27_code 96 = .ok (.aload_n 0, 1) := by decide +kernel
theorem d_Md_take_97 : decode prog_14_method_27_code 97 = .ok (.iconst 2, 1) := by decide +kernel
theorem d_Md_take_98 : decode prog_14_method_27_code 98 = .ok (.invokevirtual 347, 3) := by decide +kernel
theorem d_Md_take_101 : decode prog_14_method_27_code 101 = .ok (.ireturn, 1) := by decide +kernel
theorem d_Md_take_102 : decode prog_14_method_27_code 102 = .ok (.iinc 5 1, 3) := by decide +kernel
theorem d_Md_take_105 : decode prog_14_method_27_code 105 = .ok (.goto (-40), 3) := by decide +kernel
theorem d_Md_take_108 : decode prog_14_method_27_code 108 = .ok (.aload_n 0, 1) := by decide +kernel
theorem d_Md_take_109 : decode prog_14_method_27_code 109 = .ok (.iload_n 3, 1) := by decide +kernel
theorem d_Md_take_110 : decode prog_14_method_27_code 110 = .ok (.iload 4, 2) := by decide +kernel
theorem d_Md_take_112 : decode prog_14_method_27_code 112 = .ok (.invokevirtual 358, 3) := by decide +kernel
theorem d_Md_take_115 : decode prog_14_method_27_code 115 = .ok (.iload 4, 2) := by decide +kernel
theorem d_Md_take_117 : decode prog_14_method_27_code 117 = .ok (.ireturn, 1) := by decide +kernel
theorem d_Md_take_118 : decode prog_14_method_27_code 118 = .ok (.aload_n 0, 1) := by decide +kernel
theorem d_Md_take_119 : decode prog_14_method_27_code 119 = .ok (.getfield 89, 3) := by decide +kernel
theorem d_Md_take_122 : decode prog_14_method_27_code 122 = .ok (.istore 5, 2) := by decide +kernel
theorem d_Md_take_124 : decode prog_14_method_27_code 124 = .ok (.aload_n 0, 1) := by decide +kernel
theorem d_Md_take_125 : decode prog_14_method_27_code 125 = .ok (.getfield 96, 3) := by decide +kernel
theorem d_Md_take_128 : decode prog_14_method_27_code 128 = .ok (.istore 6, 2) := by decide +kernel
theorem d_Md_take_130 : decode prog_14_method_27_code 130 = .ok (.aload_n 0, 1) := by decide +kernel
theorem d_Md_take_131 : decode prog_14_method_27_code 131 = .ok (.getfield 108, 3) := by decide +kernel
theorem d_Md_take_134 : decode prog_14_method_27_code 134 = .ok (.istore 7, 2) := by decide +kernel
theorem d_Md_take_136 : decode prog_14_method_27_code 136 = .ok (.aload_n 0, 1) := by decide +kernel
theorem d_Md_take_137 : decode prog_14_method_27_code 137 = .ok (.getfield 117, 3) := by decide +kernel
theorem d_Md_take_140 : decode prog_14_method_27_code 140 = .ok (.istore 8, 2) := by decide +kernel
theorem d_Md_take_142 : decode prog_14_method_27_code 142 = .ok (.aload_n 0, 1) := by decide +kernel
theorem d_Md_take_143 : decode prog_14_method_27_code 143 = .ok (.getfield 114, 3) := by decide +kernel
theorem d_Md_take_146 : decode prog_14_method_27_code 146 = .ok (.iconst 0, 1) := by decide +kernel
theorem d_Md_take_147 : decode prog_14_method_27_code 147 = .ok (.aload_n 0, 1) := by decide +kernel
theorem d_Md_take_148 : decode prog_14_method_27_code 148 = .ok (.getfield 170, 3) := by decide +kernel
theorem d_Md_take_151 : decode prog_14_method_27_code 151 = .ok (.iconst 0, 1) := by decide +kernel
theorem d_Md_take_152 : decode prog_14_method_27_code 152 = .ok (.sipush 200, 3) := by decide +kernel
theorem d_Md_take_155 : decode prog_14_method_27_code 155 = .ok (.invokestatic 361, 3) := by decide +kernel
theorem d_Md_take_158 : decode prog_14_method_27_code 158 = .ok (.aload_n 0, 1) := by decide +kernel
theorem d_Md_take_159 : decode prog_14_method_27_code 159 = .ok (.aload_n 0, 1) := by decide +kernel
theorem d_Md_take_160 : decode prog_14_method_27_code 160 = .ok (.getfield 52, 3) := by decide +kernel
theorem d_Md_take_163 : decode prog_14_method_27_code 163 = .ok (.sipush 500, 3) := by decide +kernel
theorem d_Md_take_166 : decode prog_14_method_27_code 166 = .ok (.if_icmp .eq 34, 3) := by decide +kernel
theorem d_Md_take_169 : decode prog_14_method_27_code 169 = .ok (.aload_n 0, 1) := by decide +kernel
theorem d_Md_take_170 : decode prog_14_method_27_code 170 = .ok (.getfield 28, 3) := by decide +kernel
theorem d_Md_take_173 : decode prog_14_method_27_code 173 = .ok (.iload_n 2, 1) := by decide +kernel
theorem d_Md_take_174 : decode prog_14_method_27_code 174 = .ok (.iadd, 1) := by decide +kernel
theorem d_Md_take_175 : decode prog_14_method_27_code 175 = .ok (.ldc 24, 2) := by decide +kernel
theorem d_Md_take_177 : decode prog_14_method_27_code 177 = .ok (.if_icmp .gt 23, 3) := by decide +kernel
theorem d_Md_take_180 : decode prog_14_method_27_code 180 = .ok (.aload_n 0, 1) := by decide +kernel
theorem d_Md_take_181 : decode prog_14_method_27_code 181 = .ok (.getfield 38, 3) := by decide +kernel
theorem d_Md_take_184 : decode prog_14_method_27_code 184 = .ok (.aload_n 0, 1) := by decide +kernel
theorem d_Md_take_185 : decode prog_14_method_27_code 185 = .ok (.getfield 52, 3) := by decide +kernel
theorem d_Md_take_188 : decode prog_14_method_27_code 188 = .ok (.iaload, 1) := by decide +kernel
theorem d_Md_take_189 : decode prog_14_method_27_code 189 = .ok (.aload_n 0, 1) := by decide +kernel
theorem d_Md_take_190 : decode prog_14_method_27_code 190 = .ok (.getfield 155, 3) := by decide +kernel
theorem d_Md_take_193 : decode prog_14_method_27_code 193 = .ok (.iadd, 1) := by decide +kernel
theorem d_Md_take_194 : decode prog_14_method_27_code 194 = .ok (.sipush 7000, 3) := by decide +kernel
theorem d_Md_take_197 : decode prog_14_method_27_code 197 = .ok (.if_icmp .le 7, 3) := by decide +kernel
theorem d_Md_take_200 : decode prog_14_method_27_code 200 = .ok (.iconst 1, 1) := by decide +kernel
theorem d_Md_take_201 : decode prog_14_method_27_code 201 = .ok (.goto 4, 3) := by decide +kernel
theorem d_Md_take_204 : decode prog_14_method_27_code 204 = .ok (.iconst 0, 1) := by decide +kernel
theorem d_Md_take_205 : decode prog_14_method_27_code 205 = .ok (.putfield 164, 3) := by decide +kernel
theorem d_Md_take_208 : decode prog_14_method_27_code 208 = .ok (.aload_n 0, 1) := by decide +kernel
theorem d_Md_take_209 : decode prog_14_method_27_code 209 = .ok (.getfield 41, 3) := by decide +kernel
theorem d_Md_take_212 : decode prog_14_method_27_code 212 = .ok (.aload_n 0, 1) := by decide +kernel
theorem d_Md_take_213 : decode prog_14_method_27_code 213 = .ok (.getfield 52, 3) := by decide +kernel
theorem d_Md_take_216 : decode prog_14_method_27_code 216 = .ok (.aload_n 0, 1) := by decide +kernel
theorem d_Md_take_217 : decode prog_14_method_27_code 217 = .ok (.getfield 89, 3) := by decide +kernel
theorem d_Md_take_220 : decode prog_14_method_27_code 220 = .ok (.iastore, 1) := by decide +kernel
theorem d_Md_take_221 : decode prog_14_method_27_code 221 = .ok (.iconst 1, 1) := by decide +kernel
theorem d_Md_take_222 : decode prog_14_method_27_code 222 = .ok (.istore 9, 2) := by decide +kernel
theorem d_Md_take_224 : decode prog_14_method_27_code 224 = .ok (.aload_n 0, 1) := by decide +kernel
theorem d_Md_take_225 : decode prog_14_method_27_code 225 = .ok (.iconst 2, 1) := by decide +kernel
theorem d_Md_take_226 : decode prog_14_method_27_code 226 = .ok (.invokevirtual 301, 3) := by decide +kernel
theorem d_Md_take_229 : decode prog_14_method_27_code 229 = .ok (.istore 10, 2) := by decide +kernel
theorem d_Md_take_231 : decode prog_14_method_27_code 231 = .ok (.aload_n 0, 1) := by decide +kernel
theorem d_Md_take_232 : decode prog_14_method_27_code 232 = .ok (.iconst 0, 1) := by decide +kernel
theorem d_Md_take_233 : decode prog_14_method_27_code 233 = .ok (.putfield 158, 3) := by decide +kernel
theorem d_Md_take_236 : decode prog_14_method_27_code 236 = .ok (.aload_n 0, 1) := by decide +kernel
theorem d_Md_take_237 : decode prog_14_method_27_code 237 = .ok (.getfield 158, 3) := by decide +kernel
theorem d_Md_take_240 : decode prog_14_method_27_code 240 = .ok (.iload 10, 2) := by decide +kernel
theorem d_Md_take_242 : decode prog_14_method_27_code 242 = .ok (.if_icmp .ge 31, 3) := by decide +kernel
theorem d_Md_take_245 : decode prog_14_method_27_code 245 = .ok (.iload 9, 2) := by decide +kernel
theorem d_Md_take_247 : decode prog_14_method_27_code 247 = .ok (.ifCond .eq 26, 3) := by decide +kernel
theorem d_Md_take_250 : decode prog_14_method_27_code 250 = .ok (.aload_n 0, 1) := by decide +kernel
theorem d_Md_take_251 : decode prog_14_method_27_code 251 = .ok (.aload_n 0, 1) := by decide +kernel
theorem d_Md_take_252 : decode prog_14_method_27_code 252 = .ok (.getfield 28, 3) := by decide +kernel
theorem d_Md_take_255 : decode prog_14_method_27_code 255 = .ok (.invokevirtual 367, 3) := by decide +kernel
theorem d_Md_take_258 : decode prog_14_method_27_code 258 = .ok (.istore 9, 2) := by decide +kernel
theorem d_Md_take_260 : decode prog_14_method_27_code 260 = .ok (.aload_n 0, 1) := by decide +kernel
theorem d_Md_take_261 : decode prog_14_method_27_code 261 = .ok (.dup, 1) := by decide +kernel
theorem d_Md_take_262 : decode prog_14_method_27_code 262 = .ok (.getfield 158, 3) := by decide +kernel
theorem d_Md_take_265 : decode prog_14_method_27_code 265 = .ok (.iconst 1, 1) := by decide +kernel
theorem d_Md_take_266 : decode prog_14_method_27_code 266 = .ok (.iadd, 1) := by decide +kernel
theorem d_Md_take_267 : decode prog_14_method_27_code 267 = .ok (.putfield 158, 3) := by decide +kernel
theorem d_Md_take_270 : decode prog_14_method_27_code 270 = .ok (.goto (-34), 3) := by decide +kernel
theorem d_Md_take_273 : decode prog_14_method_27_code 273 = .ok (.iconst 1, 1) := by decide +kernel
theorem d_Md_take_274 : decode prog_14_method_27_code 274 = .ok (.istore 11, 2) := by decide +kernel
theorem d_Md_take_276 : decode prog_14_method_27_code 276 = .ok (.iconst 0, 1) := by decide +kernel
theorem d_Md_take_277 : decode prog_14_method_27_code 277 = .ok (.istore 12, 2) := by decide +kernel
theorem d_Md_take_279 : decode prog_14_method_27_code 279 = .ok (.iload 12, 2) := by decide +kernel
theorem d_Md_take_281 : decode prog_14_method_27_code 281 = .ok (.aload_n 0, 1) := by decide +kernel
theorem d_Md_take_282 : decode prog_14_method_27_code 282 = .ok (.getfield 155, 3) := by decide +kernel
theorem d_Md_take_285 : decode prog_14_method_27_code 285 = .ok (.if_icmp .ge 31, 3) := by decide +kernel
theorem d_Md_take_288 : decode prog_14_method_27_code 288 = .ok (.iload 11, 2) := by decide +kernel
theorem d_Md_take_290 : decode prog_14_method_27_code 290 = .ok (.ifCond .eq 17, 3) := by decide +kernel
theorem d_Md_take_293 : decode prog_14_method_27_code 293 = .ok (.aload_n 0, 1) := by decide +kernel
theorem d_Md_take_294 : decode prog_14_method_27_code 294 = .ok (.getfield 151, 3) := by decide +kernel
theorem d_Md_take_297 : decode prog_14_method_27_code 297 = .ok (.iload 12, 2) := by decide +kernel
theorem d_Md_take_299 : decode prog_14_method_27_code 299 = .ok (.baload, 1) := by decide +kernel
theorem d_Md_take_300 : decode prog_14_method_27_code 300 = .ok (.ifCond .eq 7, 3) := by decide +kernel
theorem d_Md_take_303 : decode prog_14_method_27_code 303 = .ok (.iconst 1, 1) := by decide +kernel
theorem d_Md_take_304 : decode prog_14_method_27_code 304 = .ok (.goto 4, 3) := by decide +kernel
theorem d_Md_take_307 : decode prog_14_method_27_code 307 = .ok (.iconst 0, 1) := by decide +kernel
theorem d_Md_take_308 : decode prog_14_method_27_code 308 = .ok (.istore 11, 2) := by decide +kernel
theorem d_Md_take_310 : decode prog_14_method_27_code 310 = .ok (.iinc 12 1, 3) := by decide +kernel
theorem d_Md_take_313 : decode prog_14_method_27_code 313 = .ok (.goto (-34), 3) := by decide +kernel
theorem d_Md_take_316 : decode prog_14_method_27_code 316 = .ok (.iload 9, 2) := by decide +kernel
theorem d_Md_take_318 : decode prog_14_method_27_code 318 = .ok (.ifCond .eq 39, 3) := by decide +kernel
theorem d_Md_take_321 : decode prog_14_method_27_code 321 = .ok (.iload 11, 2) := by decide +kernel
theorem d_Md_take_323 : decode prog_14_method_27_code 323 = .ok (.ifCond .eq 34, 3) := by decide +kernel
theorem d_Md_take_326 : decode prog_14_method_27_code 326 = .ok (.aload_n 0, 1) := by decide +kernel
theorem d_Md_take_327 : decode prog_14_method_27_code 327 = .ok (.getfield 164, 3) := by decide +kernel
theorem d_Md_take_330 : decode prog_14_method_27_code 330 = .ok (.ifCond .ne 27, 3) := by decide +kernel
theorem d_Md_take_333 : decode prog_14_method_27_code 333 = .ok (.aload_n 0, 1) := by decide +kernel
theorem d_Md_take_334 : decode prog_14_method_27_code 334 = .ok (.aload_n 1, 1) := by decide +kernel
theorem d_Md_take_335 : decode prog_14_method_27_code 335 = .ok (.iload_n 2, 1) := by decide +kernel
theorem d_Md_take_336 : decode prog_14_method_27_code 336 = .ok (.invokevirtual 370, 3) := by decide +kernel
theorem d_Md_take_339 : decode prog_14_method_27_code 339 = .ok (.aload_n 0, 1) := by decide +kernel
theorem d_Md_take_340 : decode prog_14_method_27_code 340 = .ok (.iload_n 3, 1) := by decide +kernel
theorem d_Md_take_341 : decode prog_14_method_27_code 341 = .ok (.aload_n 0, 1) := by decide +kernel
theorem d_Md_take_342 : decode prog_14_method_27_code 342 = .ok (.getfield 52, 3) := by decide +kernel
theorem d_Md_take_345 : decode prog_14_method_27_code 345 = .ok (.iconst 1, 1) := by decide +kernel
theorem d_Md_take_346 : decode prog_14_method_27_code 346 = .ok (.isub, 1) := by decide +kernel
theorem d_Md_take_347 : decode prog_14_method_27_code 347 = .ok (.invokevirtual 358, 3) := by decide +kernel
theorem d_Md_take_350 : decode prog_14_method_27_code 350 = .ok (.aload_n 0, 1) := by decide +kernel
theorem d_Md_take_351 : decode prog_14_method_27_code 351 = .ok (.getfield 52, 3) := by decide +kernel
theorem d_Md_take_354 : decode prog_14_method_27_code 354 = .ok (.iconst 1, 1) := by decide +kernel
theorem d_Md_take_355 : decode prog_14_method_27_code 355 = .ok (.isub, 1) := by decide +kernel
theorem d_Md_take_356 : decode prog_14_method_27_code 356 = .ok (.ireturn, 1) := by decide +kernel
theorem d_Md_take_357 : decode prog_14_method_27_code 357 = .ok (.aload_n 0, 1) := by decide +kernel
theorem d_Md_take_358 : decode prog_14_method_27_code 358 = .ok (.iload 5, 2) := by decide +kernel
theorem d_Md_take_360 : decode prog_14_method_27_code 360 = .ok (.putfield 89, 3) := by decide +kernel
theorem d_Md_take_363 : decode prog_14_method_27_code 363 = .ok (.aload_n 0, 1) := by decide +kernel
theorem d_Md_take_364 : decode prog_14_method_27_code 364 = .ok (.iload 6, 2) := by decide +kernel
theorem d_Md_take_366 : decode prog_14_method_27_code 366 = .ok (.putfield 96, 3) := by decide +kernel
theorem d_Md_take_369 : decode prog_14_method_27_code 369 = .ok (.aload_n 0, 1) := by decide +kernel
theorem d_Md_take_370 : decode prog_14_method_27_code 370 = .ok (.iload 7, 2) := by decide +kernel
theorem d_Md_take_372 : decode prog_14_method_27_code 372 = .ok (.putfield 108, 3) := by decide +kernel
theorem d_Md_take_375 : decode prog_14_method_27_code 375 = .ok (.aload_n 0, 1) := by decide +kernel
theorem d_Md_take_376 : decode prog_14_method_27_code 376 = .ok (.iload 8, 2) := by decide +kernel
theorem d_Md_take_378 : decode prog_14_method_27_code 378 = .ok (.putfield 117, 3) := by decide +kernel
theorem d_Md_take_381 : decode prog_14_method_27_code 381 = .ok (.aload_n 0, 1) := by decide +kernel
theorem d_Md_take_382 : decode prog_14_method_27_code 382 = .ok (.getfield 170, 3) := by decide +kernel
theorem d_Md_take_385 : decode prog_14_method_27_code 385 = .ok (.iconst 0, 1) := by decide +kernel
theorem d_Md_take_386 : decode prog_14_method_27_code 386 = .ok (.aload_n 0, 1) := by decide +kernel
theorem d_Md_take_387 : decode prog_14_method_27_code 387 = .ok (.getfield 114, 3) := by decide +kernel
theorem d_Md_take_390 : decode prog_14_method_27_code 390 = .ok (.iconst 0, 1) := by decide +kernel
theorem d_Md_take_391 : decode prog_14_method_27_code 391 = .ok (.sipush 200, 3) := by decide +kernel
theorem d_Md_take_394 : decode prog_14_method_27_code 394 = .ok (.invokestatic 361, 3) := by decide +kernel
theorem d_Md_take_397 : decode prog_14_method_27_code 397 = .ok (.iload 9, 2) := by decide +kernel
theorem d_Md_take_399 : decode prog_14_method_27_code 399 = .ok (.ifCond .ne 11, 3) := by decide +kernel
theorem d_Md_take_402 : decode prog_14_method_27_code 402 = .ok (.aload_n 0, 1) := by decide +kernel
theorem d_Md_take_403 : decode prog_14_method_27_code 403 = .ok (.iconst 3, 1) := by decide +kernel
theorem d_Md_take_404 : decode prog_14_method_27_code 404 = .ok (.invokevirtual 347, 3) := by decide +kernel
theorem d_Md_take_407 : decode prog_14_method_27_code 407 = .ok (.goto 18, 3) := by decide +kernel
theorem d_Md_take_410 : decode prog_14_method_27_code 410 = .ok (.iload 11, 2) := by decide +kernel
theorem d_Md_take_412 : decode prog_14_method_27_code 412 = .ok (.ifCond .ne 11, 3) := by decide +kernel
theorem d_Md_take_415 : decode prog_14_method_27_code 415 = .ok (.aload_n 0, 1) := by decide +kernel
theorem d_Md_take_416 : decode prog_14_method_27_code 416 = .ok (.iconst 4, 1) := by decide +kernel
theorem d_Md_take_417 : decode prog_14_method_27_code 417 = .ok (.invokevirtual 347, 3) := by decide +kernel
theorem d_Md_take_420 : decode prog_14_method_27_code 420 = .ok (.goto 5, 3) := by decide +kernel
theorem d_Md_take_423 : decode prog_14_method_27_code 423 = .ok (.bipush (-2), 2) := by decide +kernel
theorem d_Md_take_425 : decode prog_14_method_27_code 425 = .ok (.ireturn, 1) := by decide +kernel
def y_Md_read : MethodName := ⟨"PatchStoreModel", "read", "(I)I"⟩
abbrev c_Md_read : Cond := (Jvm.Cond.code ({ cls := "PatchStoreModel", name := "read", desc := "(I)I" } : Jvm.MethodName) prog_14_method_67_code (3 : Nat) (Option.some Jvm.ClassFile.FieldType.int))
abbrev ws_Md_read : List Cond := c_Md_read :: xg_1
theorem d_Md_read_0 : decode prog_14_method_67_code 0 = .ok (.aload_n 0, 1) := by decide +kernel
theorem d_Md_read_1 : decode prog_14_method_67_code 1 = .ok (.iconst 0, 1) := by decide +kernel
theorem d_Md_read_2 : decode prog_14_method_67_code 2 = .ok (.putfield 21, 3) := by decide +kernel
theorem d_Md_read_5 : decode prog_14_method_67_code 5 = .ok (.aload_n 0, 1) := by decide +kernel
theorem d_Md_read_6 : decode prog_14_method_67_code 6 = .ok (.iload_n 1, 1) := by decide +kernel
theorem d_Md_read_7 : decode prog_14_method_67_code 7 = .ok (.invokevirtual 430, 3) := by decide +kernel
theorem d_Md_read_10 : decode prog_14_method_67_code 10 = .ok (.ifCond .eq 5, 3) := by decide +kernel
theorem d_Md_read_13 : decode prog_14_method_67_code 13 = .ok (.iconst 0, 1) := by decide +kernel
theorem d_Md_read_14 : decode prog_14_method_67_code 14 = .ok (.ireturn, 1) := by decide +kernel
theorem d_Md_read_15 : decode prog_14_method_67_code 15 = .ok (.aload_n 0, 1) := by decide +kernel
theorem d_Md_read_16 : decode prog_14_method_67_code 16 = .ok (.aload_n 0, 1) := by decide +kernel
theorem d_Md_read_17 : decode prog_14_method_67_code 17 = .ok (.getfield 8, 3) := by decide +kernel
theorem d_Md_read_20 : decode prog_14_method_67_code 20 = .ok (.aload_n 0, 1) := by decide +kernel
theorem d_Md_read_21 : decode prog_14_method_67_code 21 = .ok (.getfield 14, 3) := by decide +kernel
theorem d_Md_read_24 : decode prog_14_method_67_code 24 = .ok (.iload_n 1, 1) := by decide +kernel
theorem d_Md_read_25 : decode prog_14_method_67_code 25 = .ok (.invokevirtual 444, 3) := by decide +kernel
theorem d_Md_read_28 : decode prog_14_method_67_code 28 = .ok (.istore_n 2, 1) := by decide +kernel
theorem d_Md_read_29 : decode prog_14_method_67_code 29 = .ok (.aload_n 0, 1) := by decide +kernel
theorem d_Md_read_30 : decode prog_14_method_67_code 30 = .ok (.iconst 2, 1) := by decide +kernel
theorem d_Md_read_31 : decode prog_14_method_67_code 31 = .ok (.iload_n 2, 1) := by decide +kernel
theorem d_Md_read_32 : decode prog_14_method_67_code 32 = .ok (.iconst (-1), 1) := by decide +kernel
theorem d_Md_read_33 : decode prog_14_method_67_code 33 = .ok (.if_icmp .ne 7, 3) := by decide +kernel
theorem d_Md_read_36 : decode prog_14_method_67_code 36 = .ok (.iconst 1, 1) := by decide +kernel
theorem d_Md_read_37 : decode prog_14_method_67_code 37 = .ok (.goto 4, 3) := by decide +kernel
theorem d_Md_read_40 : decode prog_14_method_67_code 40 = .ok (.iconst 0, 1) := by decide +kernel
theorem d_Md_read_41 : decode prog_14_method_67_code 41 = .ok (.invokevirtual 278, 3) := by decide +kernel
theorem d_Md_read_44 : decode prog_14_method_67_code 44 = .ok (.ifCond .ne 22, 3) := by decide +kernel
theorem d_Md_read_47 : decode prog_14_method_67_code 47 = .ok (.aload_n 0, 1) := by decide +kernel
theorem d_Md_read_48 : decode prog_14_method_67_code 48 = .ok (.iconst 3, 1) := by decide +kernel
theorem d_Md_read_49 : decode prog_14_method_67_code 49 = .ok (.iload_n 2, 1) := by decide +kernel
theorem d_Md_read_50 : decode prog_14_method_67_code 50 = .ok (.bipush (-2), 2) := by decide +kernel
theorem d_Md_read_52 : decode prog_14_method_67_code 52 = .ok (.if_icmp .ne 7, 3) := by decide +kernel
theorem d_Md_read_55 : decode prog_14_method_67_code 55 = .ok (.iconst 1, 1) := by decide +kernel
theorem d_Md_read_56 : decode prog_14_method_67_code 56 = .ok (.goto 4, 3) := by decide +kernel
theorem d_Md_read_59 : decode prog_14_method_67_code 59 = .ok (.iconst 0, 1) := by decide +kernel
theorem d_Md_read_60 : decode prog_14_method_67_code 60 = .ok (.invokevirtual 278, 3) := by decide +kernel
theorem d_Md_read_63 : decode prog_14_method_67_code 63 = .ok (.ifCond .eq 5, 3) := by decide +kernel
theorem d_Md_read_66 : decode prog_14_method_67_code 66 = .ok (.iconst 0, 1) := by decide +kernel
theorem d_Md_read_67 : decode prog_14_method_67_code 67 = .ok (.ireturn, 1) := by decide +kernel
theorem d_Md_read_68 : decode prog_14_method_67_code 68 = .ok (.aload_n 0, 1) := by decide +kernel
theorem d_Md_read_69 : decode prog_14_method_67_code 69 = .ok (.iconst 0, 1) := by decide +kernel
theorem d_Md_read_70 : decode prog_14_method_67_code 70 = .ok (.putfield 14, 3) := by decide +kernel
theorem d_Md_read_73 : decode prog_14_method_67_code 73 = .ok (.iload_n 2, 1) := by decide +kernel
theorem d_Md_read_74 : decode prog_14_method_67_code 74 = .ok (.ireturn, 1) := by decide +kernel
def y_Md_many : MethodName := ⟨"PatchStoreModel", "many", "(I)I"⟩
abbrev c_Md_many : Cond := (Jvm.Cond.code ({ cls := "PatchStoreModel", name := "many", desc := "(I)I" } : Jvm.MethodName) prog_14_method_71_code (4 : Nat) (Option.some Jvm.ClassFile.FieldType.int))
abbrev ws_Md_many : List Cond := c_Md_many :: xg_1
theorem d_Md_many_0 : decode prog_14_method_71_code 0 = .ok (.iconst 0, 1) := by decide +kernel
theorem d_Md_many_1 : decode prog_14_method_71_code 1 = .ok (.istore_n 2, 1) := by decide +kernel
theorem d_Md_many_2 : decode prog_14_method_71_code 2 = .ok (.iconst 0, 1) := by decide +kernel
theorem d_Md_many_3 : decode prog_14_method_71_code 3 = .ok (.istore_n 3, 1) := by decide +kernel
theorem d_Md_many_4 : decode prog_14_method_71_code 4 = .ok (.iload_n 3, 1) := by decide +kernel
theorem d_Md_many_5 : decode prog_14_method_71_code 5 = .ok (.aload_n 0, 1) := by decide +kernel
theorem d_Md_many_6 : decode prog_14_method_71_code 6 = .ok (.getfield 52, 3) := by decide +kernel
theorem d_Md_many_9 : decode prog_14_method_71_code 9 = .ok (.if_icmp .ge 23, 3) := by decide +kernel
theorem d_Md_many_12 : decode prog_14_method_71_code 12 = .ok (.aload_n 0, 1) := by decide +kernel
theorem d_Md_many_13 : decode prog_14_method_71_code 13 = .ok (.getfield 122, 3) := by decide +kernel
theorem d_Md_many_16 : decode prog_14_method_71_code 16 = .ok (.iload_n 1, 1) := by decide +kernel
theorem d_Md_many_17 : decode prog_14_method_71_code 17 = .ok (.aaload, 1) := by decide +kernel
theorem d_Md_many_18 : decode prog_14_method_71_code 18 = .ok (.iload_n 3, 1) := by decide +kernel
theorem d_Md_many_19 : decode prog_14_method_71_code 19 = .ok (.baload, 1) := by decide +kernel
theorem d_Md_many_20 : decode prog_14_method_71_code 20 = .ok (.ifCond .eq 6, 3) := by decide +kernel
theorem d_Md_many_23 : decode prog_14_method_71_code 23 = .ok (.iinc 2 1, 3) := by decide +kernel
theorem d_Md_many_26 : decode prog_14_method_71_code 26 = .ok (.iinc 3 1, 3) := by decide +kernel
theorem d_Md_many_29 : decode prog_14_method_71_code 29 = .ok (.goto (-25), 3) := by decide +kernel
theorem d_Md_many_32 : decode prog_14_method_71_code 32 = .ok (.iload_n 2, 1) := by decide +kernel
theorem d_Md_many_33 : decode prog_14_method_71_code 33 = .ok (.ireturn, 1) := by decide +kernel
def y_Md_about : MethodName := ⟨"PatchStoreModel", "about", "(II)I"⟩
abbrev c_Md_about : Cond := (Jvm.Cond.code ({ cls := "PatchStoreModel", name := "about", desc := "(II)I" } : Jvm.MethodName) prog_14_method_78_code (7 : Nat) (Option.some Jvm.ClassFile.FieldType.int))
abbrev ws_Md_about : List Cond := c_Md_about :: xg_1
theorem d_Md_about_0 : decode prog_14_method_78_code 0 = .ok (.aload_n 0, 1) := by decide +kernel
theorem d_Md_about_1 : decode prog_14_method_78_code 1 = .ok (.iload_n 1, 1) := by decide +kernel
theorem d_Md_about_2 : decode prog_14_method_78_code 2 = .ok (.invokevirtual 430, 3) := by decide +kernel
theorem d_Md_about_5 : decode prog_14_method_78_code 5 = .ok (.ifCond .ne 25, 3) := by decide +kernel
theorem d_Md_about_8 : decode prog_14_method_78_code 8 = .ok (.aload_n 0, 1) := by decide +kernel
theorem d_Md_about_9 : decode prog_14_method_78_code 9 = .ok (.iconst 2, 1) := by decide +kernel
theorem d_Md_about_10 : decode prog_14_method_78_code 10 = .ok (.iload_n 2, 1) := by decide +kernel
theorem d_Md_about_11 : decode prog_14_method_78_code 11 = .ok (.ifCond .lt 8, 3) := by decide +kernel
theorem d_Md_about_14 : decode prog_14_method_78_code 14 = .ok (.iload_n 2, 1) := by decide +kernel
theorem d_Md_about_15 : decode prog_14_method_78_code 15 = .ok (.iconst 3, 1) := by decide +kernel
theorem d_Md_about_16 : decode prog_14_method_78_code 16 = .ok (.if_icmp .le 7, 3) := by decide +kernel
theorem d_Md_about_19 : decode prog_14_method_78_code 19 = .ok (.iconst 1, 1) := by decide +kernel
theorem d_Md_about_20 : decode prog_14_method_78_code 20 = .ok (.goto 4, 3) := by decide +kernel
theorem d_Md_about_23 : decode prog_14_method_78_code 23 = .ok (.iconst 0, 1) := by decide +kernel
theorem d_Md_about_24 : decode prog_14_method_78_code 24 = .ok (.invokevirtual 278, 3) := by decide +kernel
theorem d_Md_about_27 : decode prog_14_method_78_code 27 = .ok (.ifCond .eq 5, 3) := by decide +kernel
theorem d_Md_about_30 : decode prog_14_method_78_code 30 = .ok (.iconst 0, 1) := by decide +kernel
theorem d_Md_about_31 : decode prog_14_method_78_code 31 = .ok (.ireturn, 1) := by decide +kernel
theorem d_Md_about_32 : decode prog_14_method_78_code 32 = .ok (.iload_n 2, 1) := by decide +kernel
theorem d_Md_about_33 : decode prog_14_method_78_code 33 = .ok (.ifCond .ne 9, 3) := by decide +kernel
theorem d_Md_about_36 : decode prog_14_method_78_code 36 = .ok (.aload_n 0, 1) := by decide +kernel
theorem d_Md_about_37 : decode prog_14_method_78_code 37 = .ok (.iload_n 1, 1) := by decide +kernel
theorem d_Md_about_38 : decode prog_14_method_78_code 38 = .ok (.invokevirtual 492, 3) := by decide +kernel
theorem d_Md_about_41 : decode prog_14_method_78_code 41 = .ok (.ireturn, 1) := by decide +kernel
theorem d_Md_about_42 : decode prog_14_method_78_code 42 = .ok (.aload_n 0, 1) := by decide +kernel
theorem d_Md_about_43 : decode prog_14_method_78_code 43 = .ok (.iload_n 1, 1) := by decide +kernel
theorem d_Md_about_44 : decode prog_14_method_78_code 44 = .ok (.invokevirtual 394, 3) := by decide +kernel
theorem d_Md_about_47 : decode prog_14_method_78_code 47 = .ok (.istore_n 3, 1) := by decide +kernel
theorem d_Md_about_48 : decode prog_14_method_78_code 48 = .ok (.iload_n 2, 1) := by decide +kernel
theorem d_Md_about_49 : decode prog_14_method_78_code 49 = .ok (.iconst 1, 1) := by decide +kernel
theorem d_Md_about_50 : decode prog_14_method_78_code 50 = .ok (.if_icmp .ne 5, 3) := by decide +kernel
theorem d_Md_about_53 : decode prog_14_method_78_code 53 = .ok (.iload_n 3, 1) := by decide +kernel
theorem d_Md_about_54 : decode prog_14_method_78_code 54 = .ok (.ireturn, 1) := by decide +kernel
theorem d_Md_about_55 : decode prog_14_method_78_code 55 = .ok (.iconst 0, 1) := by decide +kernel
theorem d_Md_about_56 : decode prog_14_method_78_code 56 = .ok (.istore 4, 2) := by decide +kernel
theorem d_Md_about_58 : decode prog_14_method_78_code 58 = .ok (.iconst 0, 1) := by decide +kernel
theorem d_Md_about_59 : decode prog_14_method_78_code 59 = .ok (.istore 5, 2) := by decide +kernel
theorem d_Md_about_61 : decode prog_14_method_78_code 61 = .ok (.iload 5, 2) := by decide +kernel
theorem d_Md_about_63 : decode prog_14_method_78_code 63 = .ok (.iload_n 3, 1) := by decide +kernel
theorem d_Md_about_64 : decode prog_14_method_78_code 64 = .ok (.if_icmp .ge 61, 3) := by decide +kernel
theorem d_Md_about_67 : decode prog_14_method_78_code 67 = .ok (.aload_n 0, 1) := by decide +kernel
theorem d_Md_about_68 : decode prog_14_method_78_code 68 = .ok (.getfield 184, 3) := by decide +kernel
theorem d_Md_about_71 : decode prog_14_method_78_code 71 = .ok (.iload_n 1, 1) := by decide +kernel
theorem d_Md_about_72 : decode prog_14_method_78_code 72 = .ok (.aaload, 1) := by decide +kernel
theorem d_Md_about_73 : decode prog_14_method_78_code 73 = .ok (.iload 5, 2) := by decide +kernel
theorem d_Md_about_75 : decode prog_14_method_78_code 75 = .ok (.iaload, 1) := by decide +kernel
theorem d_Md_about_76 : decode prog_14_method_78_code 76 = .ok (.istore 6, 2) := by decide +kernel
theorem d_Md_about_78 : decode prog_14_method_78_code 78 = .ok (.iload_n 2, 1) := by decide +kernel
theorem d_Md_about_79 : decode prog_14_method_78_code 79 = .ok (.iconst 2, 1) := by decide +kernel
theorem d_Md_about_80 : decode prog_14_method_78_code 80 = .ok (.if_icmp .ne 10, 3) := by decide +kernel
theorem d_Md_about_83 : decode prog_14_method_78_code 83 = .ok (.aload_n 0, 1) := by decide +kernel
theorem d_Md_about_84 : decode prog_14_method_78_code 84 = .ok (.iload_n 1, 1) := by decide +kernel
theorem d_Md_about_85 : decode prog_14_method_78_code 85 = .ok (.iload 6, 2) := by decide +kernel
theorem d_Md_about_87 : decode prog_14_method_78_code 87 = .ok (.invokevirtual 391, 3) := by decide +kernel
theorem d_Md_about_90 : decode prog_14_method_78_code 90 = .ok (.iload_n 2, 1) := by decide +kernel
theorem d_Md_about_91 : decode prog_14_method_78_code 91 = .ok (.iconst 2, 1) := by decide +kernel
theorem d_Md_about_92 : decode prog_14_method_78_code 92 = .ok (.if_icmp .ne 14, 3) := by decide +kernel
theorem d_Md_about_95 : decode prog_14_method_78_code 95 = .ok (.aload_n 0, 1) := by decide +kernel
theorem d_Md_about_96 : decode prog_14_method_78_code 96 = .ok (.getfield 179, 3) := by decide +kernel
theorem d_Md_about_99 : decode prog_14_method_78_code 99 = .ok (.iconst 1, 1) := by decide +kernel
theorem d_Md_about_100 : decode prog_14_method_78_code 100 = .ok (.if_icmp .le 19, 3) := by decide +kernel
theorem d_Md_about_103 : decode prog_14_method_78_code 103 = .ok (.goto 13, 3) := by decide +kernel
theorem d_Md_about_106 : decode prog_14_method_78_code 106 = .ok (.aload_n 0, 1) := by decide +kernel
theorem d_Md_about_107 : decode prog_14_method_78_code 107 = .ok (.iload_n 1, 1) := by decide +kernel
theorem d_Md_about_108 : decode prog_14_method_78_code 108 = .ok (.iload 6, 2) := by decide +kernel
theorem d_Md_about_110 : decode prog_14_method_78_code 110 = .ok (.invokevirtual 498, 3) := by decide +kernel
theorem d_Md_about_113 : decode prog_14_method_78_code 113 = .ok (.ifCond .eq 6, 3) := by decide +kernel
theorem d_Md_about_116 : decode prog_14_method_78_code 116 = .ok (.iinc 4 1, 3) := by decide +kernel
theorem d_Md_about_119 : decode prog_14_method_78_code 119 = .ok (.iinc 5 1, 3) := by decide +kernel
theorem d_Md_about_122 : decode prog_14_method_78_code 122 = .ok (.goto (-61), 3) := by decide +kernel
theorem d_Md_about_125 : decode prog_14_method_78_code 125 = .ok (.iload 4, 2) := by decide +kernel
theorem d_Md_about_127 : decode prog_14_method_78_code 127 = .ok (.ireturn, 1) := by decide +kernel
end
section
/-! 35: a nest mate's static field; a private method called on an object of a class below; words of a call whose named method is another -/
section X35
variable {p : Program} {l : Launch} {e : Env} {R : Room} {s : State} {m : MethodId} {args : Array Value} {below : List Frame} {meth : Method} {c : Code} {H : Heap} {locs : List Loc} {cells slots : Nat} {Q : State → Prop}
theorem xs_getsN {cc : ByteArray} {pc : Nat} {ls : Array Slot} {rest : List Value} {A : Nat → Prop} (hexec : p.tables.exec = Jvm.exec) (hb : c.code = cc) {C n d own ref host : String} {v : Value} {index : Nat} (hZ : va_Z C n d v A s s.heap) (hS : va_S A s.heap H locs) (hown : s.vm.findClass own = some m.cls) (hlink : va_Nw (.fieldLinkNest own index ref n d host) s) (hsame : ∀ x, s.fieldFound? C n d = some x → s.fieldFound? ref n d = some x) (hdg : decode cc pc = .ok (.getstatic index, 3))
    (kk : W p l e R s m args below meth c H locs cells slots Q (F0 m (pc + 3) ls (v :: rest))) : W p l e R s m args below meth c H locs cells slots Q (F0 m pc ls rest) := by
  obtain ⟨cf, kf, fi, f, a, cell, h1, h2, h3, h4, h5, h6, h7, h8⟩ := hZ
  intro T hT X
  obtain ⟨vm', X', st⟩ := X.getstaticNest hexec hown (va_Nw.use rfl hlink) (hsame _ h1) h2 h3 h4 (a₁ := a) (cell₁ := cell) (v := v) (by rw [hT, hS.2.1 a (Array.getElem?_eq_some_iff.mp h5).1 h8]; exact h5) (fun e => by rw [e] at h6; cases h6) h7 (g := F0 m pc ls rest) rfl (by rw [hb]; exact hdg)
  obtain ⟨t, a1, b1⟩ := kk (T.setVm vm') hT X'
  exact ⟨t, st _ a1, b1⟩
theorem xp_sel {C : String} {y z : MethodName} (h : (Cond.selects C z z).before args s = true) (hcls : z.cls = y.cls) (hp : va_Nw (.privateMethod y) s) (hin : (Cond.instanceMethod y).before args s = true) (hy : y.cls ≠ "java/lang/invoke/MethodHandle" ∧ y.cls ≠ "java/lang/invoke/VarHandle") : (Cond.selects y.cls y y).before args s = true := by
  obtain ⟨c2, r2, m2, -, -, q3, -, kP, hkP, hkPi⟩ := Cond.selects_spec h
  have hc : s.vm.findClass z.cls = some m2.cls := findClass_of_methodNamed q3
  rw [hcls] at hc
  exact Stand.selects_self_of_private hc hkP hkPi (Cond.privateMethod_at hp) hin hy
theorem xp_runP {y : MethodName} {bytes cc : ByteArray} {maxL nL mc ms n index : Nat} {ret : Option FieldType} {ws : List Cond} {rm : Room} {Pc : Array Value → State → Prop} {Qc : Array Value → State → Outcome → State → Prop} {free : Addr → Prop} {Ts : List Cond} {own C : String} {b : Addr} {As rest : List Value} {g : JFrame}
    (S : CallFix p m c cc nL s args Ts own) (hM : Met l y ws rm Pc Qc mc ms free) (cw : CallB R s args own index y bytes maxL ret ws rm mc ms n) (hin : (Cond.instanceMethod y).before args s = true) (hsel : (Cond.selects y.cls y y).before args s = true) (hpriv : va_Nw (.privateMethod y) s) (hp : PreV s H C b Pc As)
    (hg : g.method = m) (hn : As.length = n) (hsize : g.locals.size = nL) (hstack : g.stack = As.reverse ++ .ref b :: rest) (hW : 2 * g.monitorRoom + (rest.map fun v => v.category).sum ≤ 8) (hdg : decode cc g.pc = .ok (.invokevirtual index, 3)) (hf : cells + mc ≤ R.cells ∧ slots + ms ≤ R.slots) :
    va_Run p l e R s m args below meth c H locs cells slots mc ms g rest (Qc (Value.ref b :: As).toArray) (free) := by
  have hK : Back l R p e below s args y 3 8 (PreOf R mc ms Pc) (PostOf Qc mc ms free) := callBack cw hM hp.1
  obtain ⟨-, -, -, -, -, -, hcode, hini, hy, hlen, hl⟩ := cw
  obtain ⟨hx, hb, hml, ho, -⟩ := S
  obtain ⟨-, ⟨cellB, hcB, hoB, hclB⟩, hPc⟩ := hp
  intro T hT X
  obtain ⟨v, vm₁, ⟨U', l2, c2, s2⟩, hW₁, X', ⟨g', mk, t, L, e1, e2, hq, h1, hL, h2, h3⟩, st⟩ := X.privateBack hx (bytes := bytes) (maxL := maxL) (ret := ret) ho hl hin hsel (Cond.privateMethod_at hpriv) hcode hy hK hg (hsize.trans hml.symm) (Steps.refl _) (a := b) (cell := cellB) (by rw [hT]; exact hcB) (fun q h => by rw [h] at hoB; cases hoB) (argsL := As) (rest := rest) (fun sig h => hn.trans (hlen sig h)) hstack hW (by rw [hb]; exact hdg) (fun vm₁ hW₁ => ⟨hf.1, hf.2, hPc (T.setVm vm₁) hT hW₁⟩)
  dsimp only [Pt.U, Pt.locs, Pt.cells, Pt.slots] at X' e1 e2 h1 h2 h3 st
  subst h1; subst h2; subst h3
  exact ⟨v, (T.setVm vm₁).calling g' mk (Value.ref b :: As).toArray, t, U', L, hT, X', hL, e1, e2, hq, fun _ h9 => st.trans h9⟩
end X35
theorem xg_U {own C owner : String} {idx : Nat} {x y : MethodName} {c : Cond} (h1 : Cond.methodLink own idx x ∈ xg_1) (h2 : Cond.sameMethod x.cls owner x.name x.desc ∈ xg_1) (h3 : Cond.selects C x y ∈ xg_1) (h4 : Cond.instanceMethod y ∈ xg_1) (h5 : Cond.initialized y.cls ∈ xg_1) (h6 : c ∈ xg_1) : GoodIn xg_1 (va_wsU own idx C owner x y (c :: xg_1)) := by
  intro w hw
  rcases List.mem_append.mp hw with h | h
  · have : w ∈ xg_1 := by
      simp only [List.mem_cons, List.not_mem_nil, or_false] at h
      rcases h with rfl | rfl | rfl | rfl | rfl
      · exact h1
      · exact h2
      · exact h3
      · exact h4
      · exact h5
    exact ⟨this, good_of_word (xg_good this)⟩
  · exact xg_in h6 w h
end
