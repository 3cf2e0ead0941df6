/-! 29.read0.lean.txt -/
theorem gw_23 : (Jvm.Cond.initialized "java/lang/System") ∈ xg_1 := xg_s1 23 rfl rfl
theorem gw_190 : (Jvm.Cond.fieldLink "PatchStore$Form" (15 : Nat) "PatchStore$Stock" "from" "[I") ∈ xg_1 := xg_s1 190 rfl rfl
theorem gw_235 : (Jvm.Cond.fieldLink "PatchStore$Stock" (56 : Nat) "PatchStore$Stock" "patches" "I") ∈ xg_1 := xg_s1 235 rfl rfl
theorem gw_239 : (Jvm.Cond.fieldLink "PatchStore$Form" (21 : Nat) "PatchStore$Stock" "patches" "I") ∈ xg_1 := xg_s1 239 rfl rfl
theorem gw_762 : (Jvm.Cond.methodLink "PatchStore" (102 : Nat) ({ cls := "PatchStore$Intake", name := "settle", desc := "(LPatchStore$Repository;)I" } : Jvm.MethodName)) ∈ xg_1 := xg_s4 42 rfl rfl
theorem gw_763 : (Jvm.Cond.instanceMethod ({ cls := "PatchStore$Intake", name := "settle", desc := "(LPatchStore$Repository;)I" } : Jvm.MethodName)) ∈ xg_1 := xg_s4 43 rfl rfl
theorem gw_764 : (Jvm.Cond.selects "PatchStore$Intake" ({ cls := "PatchStore$Intake", name := "settle", desc := "(LPatchStore$Repository;)I" } : Jvm.MethodName) ({ cls := "PatchStore$Intake", name := "settle", desc := "(LPatchStore$Repository;)I" } : Jvm.MethodName)) ∈ xg_1 := xg_s4 44 rfl rfl
theorem gw_765 : (Jvm.Cond.code ({ cls := "PatchStore$Intake", name := "settle", desc := "(LPatchStore$Repository;)I" } : Jvm.MethodName) prog_4_method_2_code (3 : Nat) (Option.some Jvm.ClassFile.FieldType.int)) ∈ xg_1 := xg_s4 45 rfl rfl
theorem gw_766 : (Jvm.Cond.methodLink "PatchStore$Intake" (47 : Nat) ({ cls := "PatchStore$Form", name := "isKept", desc := "()Z" } : Jvm.MethodName)) ∈ xg_1 := xg_s4 46 rfl rfl
theorem gw_767 : (Jvm.Cond.instanceMethod ({ cls := "PatchStore$Form", name := "isKept", desc := "()Z" } : Jvm.MethodName)) ∈ xg_1 := xg_s4 47 rfl rfl
theorem gw_768 : (Jvm.Cond.selects "PatchStore$Form" ({ cls := "PatchStore$Form", name := "isKept", desc := "()Z" } : Jvm.MethodName) ({ cls := "PatchStore$Form", name := "isKept", desc := "()Z" } : Jvm.MethodName)) ∈ xg_1 := xg_s4 48 rfl rfl
theorem gw_769 : (Jvm.Cond.code ({ cls := "PatchStore$Form", name := "isKept", desc := "()Z" } : Jvm.MethodName) prog_3_method_3_code (5 : Nat) (Option.some Jvm.ClassFile.FieldType.boolean)) ∈ xg_1 := xg_s4 49 rfl rfl
theorem gw_951 : (Jvm.Cond.static ({ cls := "java/lang/System", name := "arraycopy", desc := "(Ljava/lang/Object;ILjava/lang/Object;II)V" } : Jvm.MethodName)) ∈ xg_1 := xg_s4 231 rfl rfl
theorem gw_952 : (Jvm.Cond.native ({ cls := "java/lang/System", name := "arraycopy", desc := "(Ljava/lang/Object;ILjava/lang/Object;II)V" } : Jvm.MethodName)) ∈ xg_1 := xg_s4 232 rfl rfl
theorem gw_970 : (Jvm.Cond.methodLink "PatchStore$Stock" (60 : Nat) ({ cls := "java/lang/System", name := "arraycopy", desc := "(Ljava/lang/Object;ILjava/lang/Object;II)V" } : Jvm.MethodName)) ∈ xg_1 := xg_s5 10 rfl rfl
theorem gw_1207 : (Jvm.Cond.methodLink "PatchStore" (144 : Nat) ({ cls := "PatchStore$Stock", name := "lay", desc := "([BI)V" } : Jvm.MethodName)) ∈ xg_1 := xg_s6 7 rfl rfl
theorem gw_1208 : (Jvm.Cond.instanceMethod ({ cls := "PatchStore$Stock", name := "lay", desc := "([BI)V" } : Jvm.MethodName)) ∈ xg_1 := xg_s6 8 rfl rfl
theorem gw_1209 : (Jvm.Cond.selects "PatchStore$Stock" ({ cls := "PatchStore$Stock", name := "lay", desc := "([BI)V" } : Jvm.MethodName) ({ cls := "PatchStore$Stock", name := "lay", desc := "([BI)V" } : Jvm.MethodName)) ∈ xg_1 := xg_s6 9 rfl rfl
theorem gw_1210 : (Jvm.Cond.code ({ cls := "PatchStore$Stock", name := "lay", desc := "([BI)V" } : Jvm.MethodName) prog_10_method_2_code (3 : Nat) (Option.none : Option Jvm.ClassFile.FieldType)) ∈ xg_1 := xg_s6 10 rfl rfl
def y_St_lay : MethodName := ⟨"PatchStore$Stock", "lay", "([BI)V"⟩
abbrev c_St_lay : Cond := (Jvm.Cond.code ({ cls := "PatchStore$Stock", name := "lay", desc := "([BI)V" } : Jvm.MethodName) prog_10_method_2_code (3 : Nat) (Option.none : Option Jvm.ClassFile.FieldType))
abbrev ws_St_lay : List Cond := c_St_lay :: xg_1
theorem d_St_lay_0 : decode prog_10_method_2_code 0 = .ok (.aload_n 1, 1) := by decide +kernel
theorem d_St_lay_1 : decode prog_10_method_2_code 1 = .ok (.iconst 0, 1) := by decide +kernel
theorem d_St_lay_2 : decode prog_10_method_2_code 2 = .ok (.aload_n 0, 1) := by decide +kernel
theorem d_St_lay_3 : decode prog_10_method_2_code 3 = .ok (.getfield 10, 3) := by decide +kernel
theorem d_St_lay_6 : decode prog_10_method_2_code 6 = .ok (.aload_n 0, 1) := by decide +kernel
theorem d_St_lay_7 : decode prog_10_method_2_code 7 = .ok (.getfield 16, 3) := by decide +kernel
theorem d_St_lay_10 : decode prog_10_method_2_code 10 = .ok (.aload_n 0, 1) := by decide +kernel
theorem d_St_lay_11 : decode prog_10_method_2_code 11 = .ok (.getfield 56, 3) := by decide +kernel
theorem d_St_lay_14 : decode prog_10_method_2_code 14 = .ok (.iaload, 1) := by decide +kernel
theorem d_St_lay_15 : decode prog_10_method_2_code 15 = .ok (.iload_n 2, 1) := by decide +kernel
theorem d_St_lay_16 : decode prog_10_method_2_code 16 = .ok (.invokestatic 60, 3) := by decide +kernel
theorem d_St_lay_19 : decode prog_10_method_2_code 19 = .ok (.aload_n 0, 1) := by decide +kernel
theorem d_St_lay_20 : decode prog_10_method_2_code 20 = .ok (.getfield 16, 3) := by decide +kernel
theorem d_St_lay_23 : decode prog_10_method_2_code 23 = .ok (.aload_n 0, 1) := by decide +kernel
theorem d_St_lay_24 : decode prog_10_method_2_code 24 = .ok (.getfield 56, 3) := by decide +kernel
theorem d_St_lay_27 : decode prog_10_method_2_code 27 = .ok (.iconst 1, 1) := by decide +kernel
theorem d_St_lay_28 : decode prog_10_method_2_code 28 = .ok (.iadd, 1) := by decide +kernel
theorem d_St_lay_29 : decode prog_10_method_2_code 29 = .ok (.aload_n 0, 1) := by decide +kernel
theorem d_St_lay_30 : decode prog_10_method_2_code 30 = .ok (.getfield 16, 3) := by decide +kernel
theorem d_St_lay_33 : decode prog_10_method_2_code 33 = .ok (.aload_n 0, 1) := by decide +kernel
theorem d_St_lay_34 : decode prog_10_method_2_code 34 = .ok (.getfield 56, 3) := by decide +kernel
theorem d_St_lay_37 : decode prog_10_method_2_code 37 = .ok (.iaload, 1) := by decide +kernel
theorem d_St_lay_38 : decode prog_10_method_2_code 38 = .ok (.iload_n 2, 1) := by decide +kernel
theorem d_St_lay_39 : decode prog_10_method_2_code 39 = .ok (.iadd, 1) := by decide +kernel
theorem d_St_lay_40 : decode prog_10_method_2_code 40 = .ok (.iastore, 1) := by decide +kernel
theorem d_St_lay_41 : decode prog_10_method_2_code 41 = .ok (.return_, 1) := by decide +kernel
def y_Fo_isKept : MethodName := ⟨"PatchStore$Form", "isKept", "()Z"⟩
abbrev c_Fo_isKept : Cond := (Jvm.Cond.code ({ cls := "PatchStore$Form", name := "isKept", desc := "()Z" } : Jvm.MethodName) prog_3_method_3_code (5 : Nat) (Option.some Jvm.ClassFile.FieldType.boolean))
abbrev ws_Fo_isKept : List Cond := c_Fo_isKept :: xg_1
theorem d_Fo_isKept_0 : decode prog_3_method_3_code 0 = .ok (.aload_n 0, 1) := by decide +kernel
theorem d_Fo_isKept_1 : decode prog_3_method_3_code 1 = .ok (.getfield 9, 3) := by decide +kernel
theorem d_Fo_isKept_4 : decode prog_3_method_3_code 4 = .ok (.getfield 15, 3) := by decide +kernel
theorem d_Fo_isKept_7 : decode prog_3_method_3_code 7 = .ok (.aload_n 0, 1) := by decide +kernel
theorem d_Fo_isKept_8 : decode prog_3_method_3_code 8 = .ok (.getfield 9, 3) := by decide +kernel
theorem d_Fo_isKept_11 : decode prog_3_method_3_code 11 = .ok (.getfield 21, 3) := by decide +kernel
theorem d_Fo_isKept_14 : decode prog_3_method_3_code 14 = .ok (.iaload, 1) := by decide +kernel
theorem d_Fo_isKept_15 : decode prog_3_method_3_code 15 = .ok (.istore_n 1, 1) := by decide +kernel
theorem d_Fo_isKept_16 : decode prog_3_method_3_code 16 = .ok (.aload_n 0, 1) := by decide +kernel
theorem d_Fo_isKept_17 : decode prog_3_method_3_code 17 = .ok (.getfield 9, 3) := by decide +kernel
theorem d_Fo_isKept_20 : decode prog_3_method_3_code 20 = .ok (.getfield 15, 3) := by decide +kernel
theorem d_Fo_isKept_23 : decode prog_3_method_3_code 23 = .ok (.aload_n 0, 1) := by decide +kernel
theorem d_Fo_isKept_24 : decode prog_3_method_3_code 24 = .ok (.getfield 9, 3) := by decide +kernel
theorem d_Fo_isKept_27 : decode prog_3_method_3_code 27 = .ok (.getfield 21, 3) := by decide +kernel
theorem d_Fo_isKept_30 : decode prog_3_method_3_code 30 = .ok (.iconst 1, 1) := by decide +kernel
theorem d_Fo_isKept_31 : decode prog_3_method_3_code 31 = .ok (.iadd, 1) := by decide +kernel
theorem d_Fo_isKept_32 : decode prog_3_method_3_code 32 = .ok (.iaload, 1) := by decide +kernel
theorem d_Fo_isKept_33 : decode prog_3_method_3_code 33 = .ok (.istore_n 2, 1) := by decide +kernel
theorem d_Fo_isKept_34 : decode prog_3_method_3_code 34 = .ok (.iload_n 1, 1) := by decide +kernel
theorem d_Fo_isKept_35 : decode prog_3_method_3_code 35 = .ok (.iconst 4, 1) := by decide +kernel
theorem d_Fo_isKept_36 : decode prog_3_method_3_code 36 = .ok (.iadd, 1) := by decide +kernel
theorem d_Fo_isKept_37 : decode prog_3_method_3_code 37 = .ok (.iload_n 2, 1) := by decide +kernel
theorem d_Fo_isKept_38 : decode prog_3_method_3_code 38 = .ok (.if_icmp .le 5, 3) := by decide +kernel
theorem d_Fo_isKept_41 : decode prog_3_method_3_code 41 = .ok (.iconst 0, 1) := by decide +kernel
theorem d_Fo_isKept_42 : decode prog_3_method_3_code 42 = .ok (.ireturn, 1) := by decide +kernel
theorem d_Fo_isKept_43 : decode prog_3_method_3_code 43 = .ok (.aload_n 0, 1) := by decide +kernel
theorem d_Fo_isKept_44 : decode prog_3_method_3_code 44 = .ok (.getfield 9, 3) := by decide +kernel
theorem d_Fo_isKept_47 : decode prog_3_method_3_code 47 = .ok (.iload_n 1, 1) := by decide +kernel
theorem d_Fo_isKept_48 : decode prog_3_method_3_code 48 = .ok (.invokevirtual 25, 3) := by decide +kernel
theorem d_Fo_isKept_51 : decode prog_3_method_3_code 51 = .ok (.istore_n 3, 1) := by decide +kernel
theorem d_Fo_isKept_52 : decode prog_3_method_3_code 52 = .ok (.iload_n 1, 1) := by decide +kernel
theorem d_Fo_isKept_53 : decode prog_3_method_3_code 53 = .ok (.iconst 2, 1) := by decide +kernel
theorem d_Fo_isKept_54 : decode prog_3_method_3_code 54 = .ok (.iadd, 1) := by decide +kernel
theorem d_Fo_isKept_55 : decode prog_3_method_3_code 55 = .ok (.iload_n 3, 1) := by decide +kernel
theorem d_Fo_isKept_56 : decode prog_3_method_3_code 56 = .ok (.bipush 32, 2) := by decide +kernel
theorem d_Fo_isKept_58 : decode prog_3_method_3_code 58 = .ok (.imul, 1) := by decide +kernel
theorem d_Fo_isKept_59 : decode prog_3_method_3_code 59 = .ok (.iadd, 1) := by decide +kernel
theorem d_Fo_isKept_60 : decode prog_3_method_3_code 60 = .ok (.istore 4, 2) := by decide +kernel
theorem d_Fo_isKept_62 : decode prog_3_method_3_code 62 = .ok (.iload 4, 2) := by decide +kernel
theorem d_Fo_isKept_64 : decode prog_3_method_3_code 64 = .ok (.iconst 2, 1) := by decide +kernel
theorem d_Fo_isKept_65 : decode prog_3_method_3_code 65 = .ok (.iadd, 1) := by decide +kernel
theorem d_Fo_isKept_66 : decode prog_3_method_3_code 66 = .ok (.iload_n 2, 1) := by decide +kernel
theorem d_Fo_isKept_67 : decode prog_3_method_3_code 67 = .ok (.if_icmp .gt 29, 3) := by decide +kernel
theorem d_Fo_isKept_70 : decode prog_3_method_3_code 70 = .ok (.aload_n 0, 1) := by decide +kernel
theorem d_Fo_isKept_71 : decode prog_3_method_3_code 71 = .ok (.iload_n 1, 1) := by decide +kernel
theorem d_Fo_isKept_72 : decode prog_3_method_3_code 72 = .ok (.iconst 2, 1) := by decide +kernel
theorem d_Fo_isKept_73 : decode prog_3_method_3_code 73 = .ok (.iadd, 1) := by decide +kernel
theorem d_Fo_isKept_74 : decode prog_3_method_3_code 74 = .ok (.iload_n 3, 1) := by decide +kernel
theorem d_Fo_isKept_75 : decode prog_3_method_3_code 75 = .ok (.invokevirtual 29, 3) := by decide +kernel
theorem d_Fo_isKept_78 : decode prog_3_method_3_code 78 = .ok (.ifCond .eq 18, 3) := by decide +kernel
theorem d_Fo_isKept_81 : decode prog_3_method_3_code 81 = .ok (.aload_n 0, 1) := by decide +kernel
theorem d_Fo_isKept_82 : decode prog_3_method_3_code 82 = .ok (.iload 4, 2) := by decide +kernel
theorem d_Fo_isKept_84 : decode prog_3_method_3_code 84 = .ok (.iload_n 2, 1) := by decide +kernel
theorem d_Fo_isKept_85 : decode prog_3_method_3_code 85 = .ok (.invokevirtual 33, 3) := by decide +kernel
theorem d_Fo_isKept_88 : decode prog_3_method_3_code 88 = .ok (.iload_n 2, 1) := by decide +kernel
theorem d_Fo_isKept_89 : decode prog_3_method_3_code 89 = .ok (.if_icmp .ne 7, 3) := by decide +kernel
theorem d_Fo_isKept_92 : decode prog_3_method_3_code 92 = .ok (.iconst 1, 1) := by decide +kernel
theorem d_Fo_isKept_93 : decode prog_3_method_3_code 93 = .ok (.goto 4, 3) := by decide +kernel
theorem d_Fo_isKept_96 : decode prog_3_method_3_code 96 = .ok (.iconst 0, 1) := by decide +kernel
theorem d_Fo_isKept_97 : decode prog_3_method_3_code 97 = .ok (.ireturn, 1) := by decide +kernel
def y_In_settle : MethodName := ⟨"PatchStore$Intake", "settle", "(LPatchStore$Repository;)I"⟩
abbrev c_In_settle : Cond := (Jvm.Cond.code ({ cls := "PatchStore$Intake", name := "settle", desc := "(LPatchStore$Repository;)I" } : Jvm.MethodName) prog_4_method_2_code (3 : Nat) (Option.some Jvm.ClassFile.FieldType.int))
abbrev ws_In_settle : List Cond := c_In_settle :: xg_1
theorem d_In_settle_0 : decode prog_4_method_2_code 0 = .ok (.aload_n 0, 1) := by decide +kernel
theorem d_In_settle_1 : decode prog_4_method_2_code 1 = .ok (.getfield 43, 3) := by decide +kernel
theorem d_In_settle_4 : decode prog_4_method_2_code 4 = .ok (.invokevirtual 47, 3) := by decide +kernel
theorem d_In_settle_7 : decode prog_4_method_2_code 7 = .ok (.ifCond .ne 5, 3) := by decide +kernel
theorem d_In_settle_10 : decode prog_4_method_2_code 10 = .ok (.iconst (-1), 1) := by decide +kernel
theorem d_In_settle_11 : decode prog_4_method_2_code 11 = .ok (.ireturn, 1) := by decide +kernel
theorem d_In_settle_12 : decode prog_4_method_2_code 12 = .ok (.aload_n 0, 1) := by decide +kernel
theorem d_In_settle_13 : decode prog_4_method_2_code 13 = .ok (.aload_n 1, 1) := by decide +kernel
theorem d_In_settle_14 : decode prog_4_method_2_code 14 = .ok (.invokevirtual 51, 3) := by decide +kernel
theorem d_In_settle_17 : decode prog_4_method_2_code 17 = .ok (.ifCond .ne 6, 3) := by decide +kernel
theorem d_In_settle_20 : decode prog_4_method_2_code 20 = .ok (.bipush (-2), 2) := by decide +kernel
theorem d_In_settle_22 : decode prog_4_method_2_code 22 = .ok (.ireturn, 1) := by decide +kernel
theorem d_In_settle_23 : decode prog_4_method_2_code 23 = .ok (.aload_n 0, 1) := by decide +kernel
theorem d_In_settle_24 : decode prog_4_method_2_code 24 = .ok (.invokevirtual 55, 3) := by decide +kernel
theorem d_In_settle_27 : decode prog_4_method_2_code 27 = .ok (.istore_n 2, 1) := by decide +kernel
theorem d_In_settle_28 : decode prog_4_method_2_code 28 = .ok (.iload_n 2, 1) := by decide +kernel
theorem d_In_settle_29 : decode prog_4_method_2_code 29 = .ok (.iconst (-1), 1) := by decide +kernel
theorem d_In_settle_30 : decode prog_4_method_2_code 30 = .ok (.if_icmp .eq 25, 3) := by decide +kernel
theorem d_In_settle_33 : decode prog_4_method_2_code 33 = .ok (.aload_n 1, 1) := by decide +kernel
theorem d_In_settle_34 : decode prog_4_method_2_code 34 = .ok (.aload_n 0, 1) := by decide +kernel
theorem d_In_settle_35 : decode prog_4_method_2_code 35 = .ok (.getfield 18, 3) := by decide +kernel
theorem d_In_settle_38 : decode prog_4_method_2_code 38 = .ok (.getfield 59, 3) := by decide +kernel
theorem d_In_settle_41 : decode prog_4_method_2_code 41 = .ok (.iload_n 2, 1) := by decide +kernel
theorem d_In_settle_42 : decode prog_4_method_2_code 42 = .ok (.invokevirtual 63, 3) := by decide +kernel
theorem d_In_settle_45 : decode prog_4_method_2_code 45 = .ok (.ifCond .eq 7, 3) := by decide +kernel
theorem d_In_settle_48 : decode prog_4_method_2_code 48 = .ok (.iload_n 2, 1) := by decide +kernel
theorem d_In_settle_49 : decode prog_4_method_2_code 49 = .ok (.goto 5, 3) := by decide +kernel
theorem d_In_settle_52 : decode prog_4_method_2_code 52 = .ok (.bipush (-2), 2) := by decide +kernel
theorem d_In_settle_54 : decode prog_4_method_2_code 54 = .ok (.ireturn, 1) := by decide +kernel
theorem d_In_settle_55 : decode prog_4_method_2_code 55 = .ok (.aload_n 0, 1) := by decide +kernel
theorem d_In_settle_56 : decode prog_4_method_2_code 56 = .ok (.invokevirtual 69, 3) := by decide +kernel
theorem d_In_settle_59 : decode prog_4_method_2_code 59 = .ok (.ifCond .ne 6, 3) := by decide +kernel
theorem d_In_settle_62 : decode prog_4_method_2_code 62 = .ok (.bipush (-3), 2) := by decide +kernel
theorem d_In_settle_64 : decode prog_4_method_2_code 64 = .ok (.ireturn, 1) := by decide +kernel
theorem d_In_settle_65 : decode prog_4_method_2_code 65 = .ok (.aload_n 0, 1) := by decide +kernel
theorem d_In_settle_66 : decode prog_4_method_2_code 66 = .ok (.invokevirtual 72, 3) := by decide +kernel
theorem d_In_settle_69 : decode prog_4_method_2_code 69 = .ok (.ifCond .ne 6, 3) := by decide +kernel
theorem d_In_settle_72 : decode prog_4_method_2_code 72 = .ok (.bipush (-4), 2) := by decide +kernel
theorem d_In_settle_74 : decode prog_4_method_2_code 74 = .ok (.ireturn, 1) := by decide +kernel
theorem d_In_settle_75 : decode prog_4_method_2_code 75 = .ok (.aload_n 0, 1) := by decide +kernel
theorem d_In_settle_76 : decode prog_4_method_2_code 76 = .ok (.invokevirtual 75, 3) := by decide +kernel
theorem d_In_settle_79 : decode prog_4_method_2_code 79 = .ok (.ifCond .eq 6, 3) := by decide +kernel
theorem d_In_settle_82 : decode prog_4_method_2_code 82 = .ok (.bipush (-5), 2) := by decide +kernel
theorem d_In_settle_84 : decode prog_4_method_2_code 84 = .ok (.ireturn, 1) := by decide +kernel
theorem d_In_settle_85 : decode prog_4_method_2_code 85 = .ok (.aload_n 0, 1) := by decide +kernel
theorem d_In_settle_86 : decode prog_4_method_2_code 86 = .ok (.invokevirtual 78, 3) := by decide +kernel
theorem d_In_settle_89 : decode prog_4_method_2_code 89 = .ok (.aload_n 0, 1) := by decide +kernel
theorem d_In_settle_90 : decode prog_4_method_2_code 90 = .ok (.getfield 18, 3) := by decide +kernel
theorem d_In_settle_93 : decode prog_4_method_2_code 93 = .ok (.invokevirtual 81, 3) := by decide +kernel
theorem d_In_settle_96 : decode prog_4_method_2_code 96 = .ok (.aload_n 0, 1) := by decide +kernel
theorem d_In_settle_97 : decode prog_4_method_2_code 97 = .ok (.getfield 18, 3) := by decide +kernel
theorem d_In_settle_100 : decode prog_4_method_2_code 100 = .ok (.getfield 84, 3) := by decide +kernel
theorem d_In_settle_103 : decode prog_4_method_2_code 103 = .ok (.iconst 1, 1) := by decide +kernel
theorem d_In_settle_104 : decode prog_4_method_2_code 104 = .ok (.isub, 1) := by decide +kernel
theorem d_In_settle_105 : decode prog_4_method_2_code 105 = .ok (.ireturn, 1) := by decide +kernel
def y_PS_read : MethodName := ⟨"PatchStore", "read", "(I)I"⟩
abbrev c_PS_read : Cond := (Jvm.Cond.code ({ cls := "PatchStore", name := "read", desc := "(I)I" } : Jvm.MethodName) prog_1_method_7_code (4 : Nat) (Option.some Jvm.ClassFile.FieldType.int))
abbrev ws_PS_read : List Cond := c_PS_read :: xg_1
theorem d_PS_read_0 : decode prog_1_method_7_code 0 = .ok (.aload_n 0, 1) := by decide +kernel
theorem d_PS_read_1 : decode prog_1_method_7_code 1 = .ok (.iconst 0, 1) := by decide +kernel
theorem d_PS_read_2 : decode prog_1_method_7_code 2 = .ok (.putfield 141, 3) := by decide +kernel
theorem d_PS_read_5 : decode prog_1_method_7_code 5 = .ok (.aload_n 0, 1) := by decide +kernel
theorem d_PS_read_6 : decode prog_1_method_7_code 6 = .ok (.iload_n 1, 1) := by decide +kernel
theorem d_PS_read_7 : decode prog_1_method_7_code 7 = .ok (.invokevirtual 90, 3) := by decide +kernel
theorem d_PS_read_10 : decode prog_1_method_7_code 10 = .ok (.astore_n 2, 1) := by decide +kernel
theorem d_PS_read_11 : decode prog_1_method_7_code 11 = .ok (.aload_n 0, 1) := by decide +kernel
theorem d_PS_read_12 : decode prog_1_method_7_code 12 = .ok (.getfield 30, 3) := by decide +kernel
theorem d_PS_read_15 : decode prog_1_method_7_code 15 = .ok (.aload_n 0, 1) := by decide +kernel
theorem d_PS_read_16 : decode prog_1_method_7_code 16 = .ok (.getfield 10, 3) := by decide +kernel
theorem d_PS_read_19 : decode prog_1_method_7_code 19 = .ok (.aload_n 0, 1) := by decide +kernel
theorem d_PS_read_20 : decode prog_1_method_7_code 20 = .ok (.getfield 76, 3) := by decide +kernel
theorem d_PS_read_23 : decode prog_1_method_7_code 23 = .ok (.invokevirtual 144, 3) := by decide +kernel
theorem d_PS_read_26 : decode prog_1_method_7_code 26 = .ok (.aload_n 0, 1) := by decide +kernel
theorem d_PS_read_27 : decode prog_1_method_7_code 27 = .ok (.getfield 39, 3) := by decide +kernel
theorem d_PS_read_30 : decode prog_1_method_7_code 30 = .ok (.aload_n 2, 1) := by decide +kernel
theorem d_PS_read_31 : decode prog_1_method_7_code 31 = .ok (.invokevirtual 102, 3) := by decide +kernel
theorem d_PS_read_34 : decode prog_1_method_7_code 34 = .ok (.istore_n 3, 1) := by decide +kernel
theorem d_PS_read_35 : decode prog_1_method_7_code 35 = .ok (.iload_n 3, 1) := by decide +kernel
theorem d_PS_read_36 : decode prog_1_method_7_code 36 = .ok (.ifCond .ge 23, 3) := by decide +kernel
theorem d_PS_read_39 : decode prog_1_method_7_code 39 = .ok (.iload_n 3, 1) := by decide +kernel
theorem d_PS_read_40 : decode prog_1_method_7_code 40 = .ok (.bipush (-5), 2) := by decide +kernel
theorem d_PS_read_42 : decode prog_1_method_7_code 42 = .ok (.if_icmp .eq 17, 3) := by decide +kernel
theorem d_PS_read_45 : decode prog_1_method_7_code 45 = .ok (.aload_n 0, 1) := by decide +kernel
theorem d_PS_read_46 : decode prog_1_method_7_code 46 = .ok (.iload_n 3, 1) := by decide +kernel
theorem d_PS_read_47 : decode prog_1_method_7_code 47 = .ok (.ineg, 1) := by decide +kernel
theorem d_PS_read_48 : decode prog_1_method_7_code 48 = .ok (.putfield 141, 3) := by decide +kernel
theorem d_PS_read_51 : decode prog_1_method_7_code 51 = .ok (.new 87, 3) := by decide +kernel
theorem d_PS_read_54 : decode prog_1_method_7_code 54 = .ok (.dup, 1) := by decide +kernel
theorem d_PS_read_55 : decode prog_1_method_7_code 55 = .ok (.invokespecial 89, 3) := by decide +kernel
theorem d_PS_read_58 : decode prog_1_method_7_code 58 = .ok (.athrow, 1) := by decide +kernel
theorem d_PS_read_59 : decode prog_1_method_7_code 59 = .ok (.aload_n 0, 1) := by decide +kernel
theorem d_PS_read_60 : decode prog_1_method_7_code 60 = .ok (.aload_n 2, 1) := by decide +kernel
theorem d_PS_read_61 : decode prog_1_method_7_code 61 = .ok (.iload_n 3, 1) := by decide +kernel
theorem d_PS_read_62 : decode prog_1_method_7_code 62 = .ok (.invokevirtual 106, 3) := by decide +kernel
theorem d_PS_read_65 : decode prog_1_method_7_code 65 = .ok (.ireturn, 1) := by decide +kernel
set_option maxHeartbeats 4000000 in
set_option maxRecDepth 100000 in
/-- Stock.lay -/
theorem m_St_lay (l : Launch) (dC : Nat → ClassId) (dI : Nat → Nat → Nat) (cI cB cL cZ cR : ClassId) (h b_y fr ta : Nat) (sk_firstDependency sk_firstChange sk_dependencies sk_hashes sk_byHash sk_leansOn sk_leantBy sk_changes sk_lines : Value) (NB NF NT a L pn : Nat) (bf ff tf : Nat → Int32) (sz : Nat) (hff : ff pn = nI a) (hNB : NB < 2 ^ 31) (haL : a + L ≤ NB) (hNT : NT < 2 ^ 31) (hLT : L ≤ NT) (hNF : NF < 2 ^ 31) (hpn : pn + 1 < NF) (hfit : ∀ i, i < L → fits .byte (.int (tf (0 + i))) = true) : Met l y_St_lay ws_St_lay ({ frames := 1, cells := 0, slots := 0, locals := 60 }) (xw_Pc dC dI [(cI, .int), (cB, .byte), (cL, .long), (cZ, .boolean), (cR, .object "PatchStore$Repository")] [.ref h, .ref ta, .int (nI L)] [(h, .inr (9, [.ref b_y, .ref fr, sk_firstDependency, sk_firstChange, sk_dependencies, sk_hashes, sk_byHash, sk_leansOn, sk_leantBy, sk_changes, sk_lines, .int (nI pn)])), (b_y, .inl (cB, NB, .inl bf)), (fr, .inl (cI, NF, .inl ff)), (ta, .inl (cB, NT, .inl tf))] sz) (va_Qv (fun _ : Unit => True) (fun _ t => xw_B dC dI [(cI, .int), (cB, .byte), (cL, .long), (cZ, .boolean), (cR, .object "PatchStore$Repository")] (va_A [(h, .inr (9, [.ref b_y, .ref fr, sk_firstDependency, sk_firstChange, sk_dependencies, sk_hashes, sk_byHash, sk_leansOn, sk_leantBy, sk_changes, sk_lines, .int (nI pn)])), (b_y, .inl (cB, NB, .inl bf)), (fr, .inl (cI, NF, .inl ff)), (ta, .inl (cB, NT, .inl tf))] sz) [(h, .inr (9, [.ref b_y, .ref fr, sk_firstDependency, sk_firstChange, sk_dependencies, sk_hashes, sk_byHash, sk_leansOn, sk_leantBy, sk_changes, sk_lines, .int (nI pn)])), (b_y, .inl (cB, NB, .inl (va_cpy tf bf 0 a L))), (fr, .inl (cI, NF, .inl (upd ff (pn + 1) (nI (a + L))))), (ta, .inl (cB, NT, .inl tf))] t) (va_A [(h, .inr (9, [.ref b_y, .ref fr, sk_firstDependency, sk_firstChange, sk_dependencies, sk_hashes, sk_byHash, sk_leansOn, sk_leantBy, sk_changes, sk_lines, .int (nI pn)])), (b_y, .inl (cB, NB, .inl bf)), (fr, .inl (cI, NF, .inl ff)), (ta, .inl (cB, NT, .inl tf))] sz)) 0 0 (va_A [(h, .inr (9, [.ref b_y, .ref fr, sk_firstDependency, sk_firstChange, sk_dependencies, sk_hashes, sk_byHash, sk_leansOn, sk_leantBy, sk_changes, sk_lines, .int (nI pn)])), (b_y, .inl (cB, NB, .inl bf)), (fr, .inl (cI, NF, .inl ff)), (ta, .inl (cB, NT, .inl tf))] sz) := by
  refine Met.ofW (cc := prog_10_method_2_code) (maxL := 3) (ret := none) (by decide) rfl ?_
  intro p e s m args below meth c s₁ B hml hv
  obtain ⟨rfl, hsz, hP, hK, hD0⟩ := hv
  have hx := B.exec
  have hb := B.bytes
  have hr := B.returns
  have hts0 := atoms_spec (ws := ws_St_lay) B.pre
  have hts : ∀ w ∈ xg_1, w.before _ s = true := fun w h => hts0 w (List.mem_cons_of_mem _ h)
  have hown : s.vm.findClass "PatchStore$Stock" = some m.cls := findClass_of_methodNamed B.named
  have hlocks := B.notSynchronized
  subst hsz
  have hD := hD0.self (sz := s.heap.size)
  generalize hAe : va_A [(h, .inr (9, [.ref b_y, .ref fr, sk_firstDependency, sk_firstChange, sk_dependencies, sk_hashes, sk_byHash, sk_leansOn, sk_leantBy, sk_changes, sk_lines, .int (nI pn)])), (b_y, .inl (cB, NB, .inl bf)), (fr, .inl (cI, NF, .inl ff)), (ta, .inl (cB, NT, .inl tf))] s.heap.size = A at hD ⊢
  have hA : ∀ q : Nat, s.heap.size ≤ q → A q := fun q h => by rw [← hAe]; exact Or.inr h
  have hS : va_S A s.heap s.heap [] := va_S.rf
  have hl := lv_entry ([.ref h, .ref ta, .int (nI L)]) (n := 3) (Nat.le_of_ble_eq_true rfl)
  rw [lg_entry_eq]
  generalize (lg_sl ([.ref h, .ref ta, .int (nI L)]) ++ List.replicate (3 - (lg_sl ([.ref h, .ref ta, .int (nI L)])).length) Slot.unset).toArray = ls at hl ⊢
  have hl : lv_has ls 3 [(0, .ref h), (1, .ref ta), (2, .int (nI L))] := hl
  refine lv_aload_n hx hb d_St_lay_0 rfl (lv_at hl 1 rfl) ?_
  refine lv_iconst (v := 0) hx hb d_St_lay_1 (by decide) ?_
  refine lv_aload_n hx hb d_St_lay_2 rfl (lv_at hl 0 rfl) ?_
  refine va_get (D := (dC, dI)) (ci := 9) (v := .ref b_y) (C := R_St) (T := F_St) (N := 12) hx hb hts i_St hown hK hP 0 rfl rfl 0 (by decide) (hts _ gw_182) (fun _ h9 => h9) rfl d_St_lay_3 ?_
  refine lv_aload_n hx hb d_St_lay_6 rfl (lv_at hl 0 rfl) ?_
  refine va_get (D := (dC, dI)) (ci := 9) (v := .ref fr) (C := R_St) (T := F_St) (N := 12) hx hb hts i_St hown hK hP 0 rfl rfl 1 (by decide) (hts _ gw_189) (fun _ h9 => h9) rfl d_St_lay_7 ?_
  refine lv_aload_n hx hb d_St_lay_10 rfl (lv_at hl 0 rfl) ?_
  refine va_get (D := (dC, dI)) (ci := 9) (v := .int (nI pn)) (C := R_St) (T := F_St) (N := 12) hx hb hts i_St hown hK hP 0 rfl rfl 11 (by decide) (hts _ gw_235) (fun _ h9 => h9) rfl d_St_lay_11 ?_
  refine va_iald hx hb hK hP 2 0 rfl rfl (vp_in_nI (by omega) (by omega)) d_St_lay_14 ?_
  rw [show (nI pn).toNatClampNeg = pn from nI_clamp (by omega)]
  rw [hff]
  refine lv_iload_n hx hb d_St_lay_15 rfl (lv_at hl 2 rfl) ?_
  have cp1 : (0 : Int32).toNatClampNeg = 0 := rfl
  have cp2 : (nI a).toNatClampNeg = a := nI_clamp (by omega)
  have cp3 : (nI L).toNatClampNeg = L := nI_clamp (by omega)
  refine va_copyi hx hb (by rw [hml, hl.1]) hown (hts _ gw_970) (hts _ gw_952) (hts _ gw_951) (hts _ gw_23) hK hP hD hS 3 1 1 1 rfl rfl rfl rfl rfl (by decide) (nI_pos (by omega)) (nI_pos (by omega)) (by rw [cp1, cp3]; omega) (by rw [cp2, cp3]; omega) (by rw [cp1, cp3]; exact hfit) (Nat.le_of_ble_eq_true rfl) (Nat.le_of_ble_eq_true rfl) d_St_lay_16 (fun H locs hP hD hS => ?_)
  rw [cp1, cp2, cp3] at hP hD
  have hP : va_P (dC, dI) classes [(h, .inr (9, [.ref b_y, .ref fr, sk_firstDependency, sk_firstChange, sk_dependencies, sk_hashes, sk_byHash, sk_leansOn, sk_leantBy, sk_changes, sk_lines, .int (nI pn)])), (b_y, .inl (cB, NB, .inl (va_cpy tf bf 0 a L))), (fr, .inl (cI, NF, .inl ff)), (ta, .inl (cB, NT, .inl tf))] H := hP
  have hD : va_D A [(h, .inr (9, [.ref b_y, .ref fr, sk_firstDependency, sk_firstChange, sk_dependencies, sk_hashes, sk_byHash, sk_leansOn, sk_leantBy, sk_changes, sk_lines, .int (nI pn)])), (b_y, .inl (cB, NB, .inl (va_cpy tf bf 0 a L))), (fr, .inl (cI, NF, .inl ff)), (ta, .inl (cB, NT, .inl tf))] := hD
  refine lv_aload_n hx hb d_St_lay_19 rfl (lv_at hl 0 rfl) ?_
  refine va_get (D := (dC, dI)) (ci := 9) (v := .ref fr) (C := R_St) (T := F_St) (N := 12) hx hb hts i_St hown hK hP 0 rfl rfl 1 (by decide) (hts _ gw_189) (fun _ h9 => h9) rfl d_St_lay_20 ?_
  refine lv_aload_n hx hb d_St_lay_23 rfl (lv_at hl 0 rfl) ?_
  refine va_get (D := (dC, dI)) (ci := 9) (v := .int (nI pn)) (C := R_St) (T := F_St) (N := 12) hx hb hts i_St hown hK hP 0 rfl rfl 11 (by decide) (hts _ gw_235) (fun _ h9 => h9) rfl d_St_lay_24 ?_
  refine lv_iconst (v := 1) hx hb d_St_lay_27 (by decide) ?_
  refine lv_iadd hx hb d_St_lay_28 ?_
  refine lv_topi (fun x_1 ex_1 => ?_)
  obtain rfl : x_1 = nI (pn + 1) := by rw [ex_1]; first | done | (exact nI_add pn 1)
  refine lv_aload_n hx hb d_St_lay_29 rfl (lv_at hl 0 rfl) ?_
  refine va_get (D := (dC, dI)) (ci := 9) (v := .ref fr) (C := R_St) (T := F_St) (N := 12) hx hb hts i_St hown hK hP 0 rfl rfl 1 (by decide) (hts _ gw_189) (fun _ h9 => h9) rfl d_St_lay_30 ?_
  refine lv_aload_n hx hb d_St_lay_33 rfl (lv_at hl 0 rfl) ?_
  refine va_get (D := (dC, dI)) (ci := 9) (v := .int (nI pn)) (C := R_St) (T := F_St) (N := 12) hx hb hts i_St hown hK hP 0 rfl rfl 11 (by decide) (hts _ gw_235) (fun _ h9 => h9) rfl d_St_lay_34 ?_
  refine va_iald hx hb hK hP 2 0 rfl rfl (vp_in_nI (by omega) (by omega)) d_St_lay_37 ?_
  rw [show (nI pn).toNatClampNeg = pn from nI_clamp (by omega)]
  rw [hff]
  refine lv_iload_n hx hb d_St_lay_38 rfl (lv_at hl 2 rfl) ?_
  refine lv_iadd hx hb d_St_lay_39 ?_
  refine lv_topi (fun x_2 ex_2 => ?_)
  obtain rfl : x_2 = nI (a + L) := by rw [ex_2]; first | done | (exact nI_add a L)
  refine va_iast hx hb hK hP hD hS 2 0 rfl rfl (vp_in_nI (by omega) (by omega)) d_St_lay_40 (fun H locs hP hD hS => ?_)
  rw [show (nI (pn + 1)).toNatClampNeg = (pn + 1) from nI_clamp (by omega)] at hP hD
  have hP : va_P (dC, dI) classes [(h, .inr (9, [.ref b_y, .ref fr, sk_firstDependency, sk_firstChange, sk_dependencies, sk_hashes, sk_byHash, sk_leansOn, sk_leantBy, sk_changes, sk_lines, .int (nI pn)])), (b_y, .inl (cB, NB, .inl (va_cpy tf bf 0 a L))), (fr, .inl (cI, NF, .inl (upd ff (pn + 1) (nI (a + L))))), (ta, .inl (cB, NT, .inl tf))] H := hP
  have hD : va_D A [(h, .inr (9, [.ref b_y, .ref fr, sk_firstDependency, sk_firstChange, sk_dependencies, sk_hashes, sk_byHash, sk_leansOn, sk_leantBy, sk_changes, sk_lines, .int (nI pn)])), (b_y, .inl (cB, NB, .inl (va_cpy tf bf 0 a L))), (fr, .inl (cI, NF, .inl (upd ff (pn + 1) (nI (a + L))))), (ta, .inl (cB, NT, .inl tf))] := hD
  exact W.vret hx hb hr (fun t ht hW => ⟨⟨(), rfl, trivial, by rw [ht]; exact hP, va_K.moved hW.alike hK, hD⟩, hS.F ht⟩) hS.2.2 d_St_lay_41
set_option maxHeartbeats 4000000 in
set_option maxRecDepth 100000 in
/-- isKept of too few bytes -/
theorem m_Fo_isKept0 (l : Launch) (dC : Nat → ClassId) (dI : Nat → Nat → Nat) (cI cB cL cZ cR : ClassId) (h sk fr : Nat) (sk_bytes sk_firstDependency sk_firstChange sk_dependencies sk_hashes sk_byHash sk_leansOn sk_leantBy sk_changes sk_lines : Value) (NF a b pn : Nat) (ff : Nat → Int32) (sz : Nat) (hff : ff pn = nI a) (hf2 : ff (pn + 1) = nI b) (hab : b < a + 4) (ha3 : a < 2 ^ 30) (hNF : NF < 2 ^ 31) (hpn : pn + 1 < NF) : Met l y_Fo_isKept ws_Fo_isKept ({ frames := 0, cells := 0, slots := 0, locals := 0 }) (xw_Pc dC dI [(cI, .int), (cB, .byte), (cL, .long), (cZ, .boolean), (cR, .object "PatchStore$Repository")] [.ref h] [(h, .inr (2, [.ref sk])), (sk, .inr (9, [sk_bytes, .ref fr, sk_firstDependency, sk_firstChange, sk_dependencies, sk_hashes, sk_byHash, sk_leansOn, sk_leantBy, sk_changes, sk_lines, .int (nI pn)])), (fr, .inl (cI, NF, .inl ff))] sz) (va_Qi (fun (r : Int32) (_ : Unit) => r = 0) (fun _ t => xw_B dC dI [(cI, .int), (cB, .byte), (cL, .long), (cZ, .boolean), (cR, .object "PatchStore$Repository")] (va_A [(h, .inr (2, [.ref sk])), (sk, .inr (9, [sk_bytes, .ref fr, sk_firstDependency, sk_firstChange, sk_dependencies, sk_hashes, sk_byHash, sk_leansOn, sk_leantBy, sk_changes, sk_lines, .int (nI pn)])), (fr, .inl (cI, NF, .inl ff))] sz) [(h, .inr (2, [.ref sk])), (sk, .inr (9, [sk_bytes, .ref fr, sk_firstDependency, sk_firstChange, sk_dependencies, sk_hashes, sk_byHash, sk_leansOn, sk_leantBy, sk_changes, sk_lines, .int (nI pn)])), (fr, .inl (cI, NF, .inl ff))] t) (va_A [(h, .inr (2, [.ref sk])), (sk, .inr (9, [sk_bytes, .ref fr, sk_firstDependency, sk_firstChange, sk_dependencies, sk_hashes, sk_byHash, sk_leansOn, sk_leantBy, sk_changes, sk_lines, .int (nI pn)])), (fr, .inl (cI, NF, .inl ff))] sz)) 0 0 (va_A [(h, .inr (2, [.ref sk])), (sk, .inr (9, [sk_bytes, .ref fr, sk_firstDependency, sk_firstChange, sk_dependencies, sk_hashes, sk_byHash, sk_leansOn, sk_leantBy, sk_changes, sk_lines, .int (nI pn)])), (fr, .inl (cI, NF, .inl ff))] sz) := by
  refine Met.ofW (cc := prog_3_method_3_code) (maxL := 5) (ret := (Option.some Jvm.ClassFile.FieldType.boolean)) (by decide) rfl ?_
  intro p e s m args below meth c s₁ B hml hv
  obtain ⟨rfl, hsz, hP, hK, hD0⟩ := hv
  have hx := B.exec
  have hb := B.bytes
  have hr := B.returns
  have hts0 := atoms_spec (ws := ws_Fo_isKept) B.pre
  have hts : ∀ w ∈ xg_1, w.before _ s = true := fun w h => hts0 w (List.mem_cons_of_mem _ h)
  have hown : s.vm.findClass "PatchStore$Form" = some m.cls := findClass_of_methodNamed B.named
  have hlocks := B.notSynchronized
  subst hsz
  have hD := hD0.self (sz := s.heap.size)
  generalize hAe : va_A [(h, .inr (2, [.ref sk])), (sk, .inr (9, [sk_bytes, .ref fr, sk_firstDependency, sk_firstChange, sk_dependencies, sk_hashes, sk_byHash, sk_leansOn, sk_leantBy, sk_changes, sk_lines, .int (nI pn)])), (fr, .inl (cI, NF, .inl ff))] s.heap.size = A at hD ⊢
  have hA : ∀ q : Nat, s.heap.size ≤ q → A q := fun q h => by rw [← hAe]; exact Or.inr h
  have hS : va_S A s.heap s.heap [] := va_S.rf
  have hl := lv_entry ([.ref h]) (n := 5) (Nat.le_of_ble_eq_true rfl)
  rw [lg_entry_eq]
  generalize (lg_sl ([.ref h]) ++ List.replicate (5 - (lg_sl ([.ref h])).length) Slot.unset).toArray = ls at hl ⊢
  have hl : lv_has ls 5 [(0, .ref h)] := hl
  refine lv_aload_n hx hb d_Fo_isKept_0 rfl (lv_at hl 0 rfl) ?_
  refine va_get (D := (dC, dI)) (ci := 2) (v := .ref sk) (C := R_Fo) (T := F_Fo) (N := 1) hx hb hts i_Fo hown hK hP 0 rfl rfl 0 (by decide) (hts _ gw_280) (fun _ h9 => h9) rfl d_Fo_isKept_1 ?_
  refine va_get (D := (dC, dI)) (ci := 9) (v := .ref fr) (C := R_St) (T := F_St) (N := 12) hx hb hts i_St hown hK hP 1 rfl rfl 1 (by decide) (hts _ gw_190) (fun _ h9 => h9) rfl d_Fo_isKept_4 ?_
  refine lv_aload_n hx hb d_Fo_isKept_7 rfl (lv_at hl 0 rfl) ?_
  refine va_get (D := (dC, dI)) (ci := 2) (v := .ref sk) (C := R_Fo) (T := F_Fo) (N := 1) hx hb hts i_Fo hown hK hP 0 rfl rfl 0 (by decide) (hts _ gw_280) (fun _ h9 => h9) rfl d_Fo_isKept_8 ?_
  refine va_get (D := (dC, dI)) (ci := 9) (v := .int (nI pn)) (C := R_St) (T := F_St) (N := 12) hx hb hts i_St hown hK hP 1 rfl rfl 11 (by decide) (hts _ gw_239) (fun _ h9 => h9) rfl d_Fo_isKept_11 ?_
  refine va_iald hx hb hK hP 2 0 rfl rfl (vp_in_nI (by omega) (by omega)) d_Fo_isKept_14 ?_
  rw [show (nI pn).toNatClampNeg = pn from nI_clamp (by omega)]
  rw [hff]
  refine lv_istore_n (lv' := [(1, .int (nI a)), (0, .ref h)]) hx hb d_Fo_isKept_15 rfl hl (by decide) rfl (fun ls hl => ?_)
  refine lv_aload_n hx hb d_Fo_isKept_16 rfl (lv_at hl 1 rfl) ?_
  refine va_get (D := (dC, dI)) (ci := 2) (v := .ref sk) (C := R_Fo) (T := F_Fo) (N := 1) hx hb hts i_Fo hown hK hP 0 rfl rfl 0 (by decide) (hts _ gw_280) (fun _ h9 => h9) rfl d_Fo_isKept_17 ?_
  refine va_get (D := (dC, dI)) (ci := 9) (v := .ref fr) (C := R_St) (T := F_St) (N := 12) hx hb hts i_St hown hK hP 1 rfl rfl 1 (by decide) (hts _ gw_190) (fun _ h9 => h9) rfl d_Fo_isKept_20 ?_
  refine lv_aload_n hx hb d_Fo_isKept_23 rfl (lv_at hl 1 rfl) ?_
  refine va_get (D := (dC, dI)) (ci := 2) (v := .ref sk) (C := R_Fo) (T := F_Fo) (N := 1) hx hb hts i_Fo hown hK hP 0 rfl rfl 0 (by decide) (hts _ gw_280) (fun _ h9 => h9) rfl d_Fo_isKept_24 ?_
  refine va_get (D := (dC, dI)) (ci := 9) (v := .int (nI pn)) (C := R_St) (T := F_St) (N := 12) hx hb hts i_St hown hK hP 1 rfl rfl 11 (by decide) (hts _ gw_239) (fun _ h9 => h9) rfl d_Fo_isKept_27 ?_
  refine lv_iconst (v := 1) hx hb d_Fo_isKept_30 (by decide) ?_
  refine lv_iadd hx hb d_Fo_isKept_31 ?_
  refine lv_topi (fun x_1 ex_1 => ?_)
  obtain rfl : x_1 = nI (pn + 1) := by rw [ex_1]; first | done | (exact nI_add pn 1)
  refine va_iald hx hb hK hP 2 0 rfl rfl (vp_in_nI (by omega) (by omega)) d_Fo_isKept_32 ?_
  rw [show (nI (pn + 1)).toNatClampNeg = (pn + 1) from nI_clamp (by omega)]
  rw [hf2]
  refine lv_istore_n (lv' := [(2, .int (nI b)), (1, .int (nI a)), (0, .ref h)]) hx hb d_Fo_isKept_33 rfl hl (by decide) rfl (fun ls hl => ?_)
  refine lv_iload_n hx hb d_Fo_isKept_34 rfl (lv_at hl 1 rfl) ?_
  refine lv_iconst (v := 4) hx hb d_Fo_isKept_35 (by decide) ?_
  refine lv_iadd hx hb d_Fo_isKept_36 ?_
  refine lv_topi (fun x_2 ex_2 => ?_)
  obtain rfl : x_2 = nI (a + 4) := by rw [ex_2]; first | done | (exact nI_add a 4)
  refine lv_iload_n hx hb d_Fo_isKept_37 rfl (lv_at hl 0 rfl) ?_
  refine lv_icmp_le (tgt := 43) hx hb d_Fo_isKept_38 (by decide) (fun c_38 => absurd c_38 (fun z => by have := (nI_leI (a := a + 4) (b := b) (by omega) (by omega)).mp z; omega)) (fun _ => ?_)
  refine lv_iconst (v := 0) hx hb d_Fo_isKept_41 (by decide) ?_
  exact W.zret (v := 0) hx hb hr nz_b0 (fun t ht hW => ⟨⟨_, (), rfl, rfl, by rw [ht]; exact hP, va_K.moved hW.alike hK, hD⟩, hS.F ht⟩) hS.2.2 d_Fo_isKept_42
set_option maxHeartbeats 4000000 in
set_option maxRecDepth 100000 in
/-- settle of too few bytes -/
theorem m_It_settle0 (l : Launch) (dC : Nat → ClassId) (dI : Nat → Nat → Nat) (cI cB cL cZ cR : ClassId) (h fo sk fr rr : Nat) (it_stock it_changes it_lines it_sha it_named it_linesOfFile it_nextFile it_nextLine sk_bytes sk_firstDependency sk_firstChange sk_dependencies sk_hashes sk_byHash sk_leansOn sk_leantBy sk_changes sk_lines : Value) (NF a b pn : Nat) (ff : Nat → Int32) (sz : Nat) (hff : ff pn = nI a) (hf2 : ff (pn + 1) = nI b) (hab : b < a + 4) (ha3 : a < 2 ^ 30) (hNF : NF < 2 ^ 31) (hpn : pn + 1 < NF) : Met l y_In_settle ws_In_settle ({ frames := 1, cells := 0, slots := 0, locals := 40 }) (xw_Pc dC dI [(cI, .int), (cB, .byte), (cL, .long), (cZ, .boolean), (cR, .object "PatchStore$Repository")] [.ref h, .ref rr] [(h, .inr (3, [it_stock, it_changes, it_lines, it_sha, .ref fo, it_named, it_linesOfFile, it_nextFile, it_nextLine])), (fo, .inr (2, [.ref sk])), (sk, .inr (9, [sk_bytes, .ref fr, sk_firstDependency, sk_firstChange, sk_dependencies, sk_hashes, sk_byHash, sk_leansOn, sk_leantBy, sk_changes, sk_lines, .int (nI pn)])), (fr, .inl (cI, NF, .inl ff))] sz) (va_Qi (fun (r : Int32) (_ : Unit) => r = -1) (fun _ t => xw_B dC dI [(cI, .int), (cB, .byte), (cL, .long), (cZ, .boolean), (cR, .object "PatchStore$Repository")] (va_A [(h, .inr (3, [it_stock, it_changes, it_lines, it_sha, .ref fo, it_named, it_linesOfFile, it_nextFile, it_nextLine])), (fo, .inr (2, [.ref sk])), (sk, .inr (9, [sk_bytes, .ref fr, sk_firstDependency, sk_firstChange, sk_dependencies, sk_hashes, sk_byHash, sk_leansOn, sk_leantBy, sk_changes, sk_lines, .int (nI pn)])), (fr, .inl (cI, NF, .inl ff))] sz) [(h, .inr (3, [it_stock, it_changes, it_lines, it_sha, .ref fo, it_named, it_linesOfFile, it_nextFile, it_nextLine])), (fo, .inr (2, [.ref sk])), (sk, .inr (9, [sk_bytes, .ref fr, sk_firstDependency, sk_firstChange, sk_dependencies, sk_hashes, sk_byHash, sk_leansOn, sk_leantBy, sk_changes, sk_lines, .int (nI pn)])), (fr, .inl (cI, NF, .inl ff))] t) (va_A [(h, .inr (3, [it_stock, it_changes, it_lines, it_sha, .ref fo, it_named, it_linesOfFile, it_nextFile, it_nextLine])), (fo, .inr (2, [.ref sk])), (sk, .inr (9, [sk_bytes, .ref fr, sk_firstDependency, sk_firstChange, sk_dependencies, sk_hashes, sk_byHash, sk_leansOn, sk_leantBy, sk_changes, sk_lines, .int (nI pn)])), (fr, .inl (cI, NF, .inl ff))] sz)) 0 0 (va_A [(h, .inr (3, [it_stock, it_changes, it_lines, it_sha, .ref fo, it_named, it_linesOfFile, it_nextFile, it_nextLine])), (fo, .inr (2, [.ref sk])), (sk, .inr (9, [sk_bytes, .ref fr, sk_firstDependency, sk_firstChange, sk_dependencies, sk_hashes, sk_byHash, sk_leansOn, sk_leantBy, sk_changes, sk_lines, .int (nI pn)])), (fr, .inl (cI, NF, .inl ff))] sz) := by
  refine Met.ofW (cc := prog_4_method_2_code) (maxL := 3) (ret := (Option.some Jvm.ClassFile.FieldType.int)) (by decide) rfl ?_
  intro p e s m args below meth c s₁ B hml hv
  obtain ⟨rfl, hsz, hP, hK, hD0⟩ := hv
  have hx := B.exec
  have hb := B.bytes
  have hr := B.returns
  have hts0 := atoms_spec (ws := ws_In_settle) B.pre
  have hts : ∀ w ∈ xg_1, w.before _ s = true := fun w h => hts0 w (List.mem_cons_of_mem _ h)
  have hown : s.vm.findClass "PatchStore$Intake" = some m.cls := findClass_of_methodNamed B.named
  have hlocks := B.notSynchronized
  subst hsz
  have hD := hD0.self (sz := s.heap.size)
  generalize hAe : va_A [(h, .inr (3, [it_stock, it_changes, it_lines, it_sha, .ref fo, it_named, it_linesOfFile, it_nextFile, it_nextLine])), (fo, .inr (2, [.ref sk])), (sk, .inr (9, [sk_bytes, .ref fr, sk_firstDependency, sk_firstChange, sk_dependencies, sk_hashes, sk_byHash, sk_leansOn, sk_leantBy, sk_changes, sk_lines, .int (nI pn)])), (fr, .inl (cI, NF, .inl ff))] s.heap.size = A at hD ⊢
  have hA : ∀ q : Nat, s.heap.size ≤ q → A q := fun q h => by rw [← hAe]; exact Or.inr h
  have hS : va_S A s.heap s.heap [] := va_S.rf
  have hl := lv_entry ([.ref h, .ref rr]) (n := 3) (Nat.le_of_ble_eq_true rfl)
  rw [lg_entry_eq]
  generalize (lg_sl ([.ref h, .ref rr]) ++ List.replicate (3 - (lg_sl ([.ref h, .ref rr])).length) Slot.unset).toArray = ls at hl ⊢
  have hl : lv_has ls 3 [(0, .ref h), (1, .ref rr)] := hl
  refine lv_aload_n hx hb d_In_settle_0 rfl (lv_at hl 0 rfl) ?_
  refine va_get (D := (dC, dI)) (ci := 3) (v := .ref fo) (C := R_In) (T := F_In) (N := 9) hx hb hts i_In hown hK hP 0 rfl rfl 4 (by decide) (hts _ gw_288) (fun _ h9 => h9) rfl d_In_settle_1 ?_
  have hPc := hP.sub (ws' := [(fo, .inr (2, [.ref sk])), (sk, .inr (9, [sk_bytes, .ref fr, sk_firstDependency, sk_firstChange, sk_dependencies, sk_hashes, sk_byHash, sk_leansOn, sk_leantBy, sk_changes, sk_lines, .int (nI pn)])), (fr, .inl (cI, NF, .inl ff))]) [1, 2, 3] rfl
  have hDc := hD.sub (ws' := [(fo, .inr (2, [.ref sk])), (sk, .inr (9, [sk_bytes, .ref fr, sk_firstDependency, sk_firstChange, sk_dependencies, sk_hashes, sk_byHash, sk_leansOn, sk_leantBy, sk_changes, sk_lines, .int (nI pn)])), (fr, .inl (cI, NF, .inl ff))]) [1, 2, 3] (by decide) rfl
  have hFc := va_free (wc := [(fo, .inr (2, [.ref sk])), (sk, .inr (9, [sk_bytes, .ref fr, sk_firstDependency, sk_firstChange, sk_dependencies, sk_hashes, sk_byHash, sk_leansOn, sk_leantBy, sk_changes, sk_lines, .int (nI pn)])), (fr, .inl (cI, NF, .inl ff))]) hD hS hA [1, 2, 3] rfl
  refine va_calli (va_runV (As := []) (rest := []) ⟨hx, hb, hml, hown, hts⟩ (m_Fo_isKept0 l dC dI cI cB cL cZ cR fo sk fr  (sk_bytes) (sk_firstDependency) (sk_firstChange) (sk_dependencies) (sk_hashes) (sk_byHash) (sk_leansOn) (sk_leantBy) (sk_changes) (sk_lines) NF a b pn ff s.heap.size hff hf2 hab ha3 hNF hpn) (cwV 0 hts (xg_V gw_766 gw_767 gw_768 gw_7 gw_769) rfl rfl rfl (by decide +kernel) ⟨Nat.le_of_ble_eq_true rfl, Nat.le_of_ble_eq_true rfl⟩) ⟨xw_blind, va_recv hK hPc (ci := 2) (q0 := 0) rfl rfl, fun U hU hW => ⟨rfl, by rw [hU], by rw [hU]; exact hPc, va_K.moved hW.alike hK, hDc.weaken (fun _ _ _ _ => trivial)⟩⟩ rfl rfl hl.1 rfl (lv_room (Nat.le_of_ble_eq_true rfl)) d_In_settle_4 ⟨Nat.le_of_ble_eq_true rfl, Nat.le_of_ble_eq_true rfl⟩) hS (fun q _ h => hFc q h) hFc (fun r9 u t H1 locs ht hvm hw hB hz1 hk1 hS => ?_)
  obtain ⟨hP1, hK1, hD1⟩ := hB
  rw [ht] at hP1
  obtain ⟨hP, hD⟩ := va_join (wr := [(h, .inr (3, [it_stock, it_changes, it_lines, it_sha, .ref fo, it_named, it_linesOfFile, it_nextFile, it_nextLine]))]) (w1 := [(fo, .inr (2, [.ref sk])), (sk, .inr (9, [sk_bytes, .ref fr, sk_firstDependency, sk_firstChange, sk_dependencies, sk_hashes, sk_byHash, sk_leansOn, sk_leantBy, sk_changes, sk_lines, .int (nI pn)])), (fr, .inl (cI, NF, .inl ff))]) hP hD [1, 2, 3] [0] rfl rfl (by decide) (by decide) hk1 hFc hP1 hD1
  generalize H1 = H at hP hS ⊢
  have hP : va_P (dC, dI) classes [(h, .inr (3, [it_stock, it_changes, it_lines, it_sha, .ref fo, it_named, it_linesOfFile, it_nextFile, it_nextLine])), (fo, .inr (2, [.ref sk])), (sk, .inr (9, [sk_bytes, .ref fr, sk_firstDependency, sk_firstChange, sk_dependencies, sk_hashes, sk_byHash, sk_leansOn, sk_leantBy, sk_changes, sk_lines, .int (nI pn)])), (fr, .inl (cI, NF, .inl ff))] H := hP
  have hD : va_D A [(h, .inr (3, [it_stock, it_changes, it_lines, it_sha, .ref fo, it_named, it_linesOfFile, it_nextFile, it_nextLine])), (fo, .inr (2, [.ref sk])), (sk, .inr (9, [sk_bytes, .ref fr, sk_firstDependency, sk_firstChange, sk_dependencies, sk_hashes, sk_byHash, sk_leansOn, sk_leantBy, sk_changes, sk_lines, .int (nI pn)])), (fr, .inl (cI, NF, .inl ff))] := hD
  subst hw
  refine lv_if_ne (tgt := 12) hx hb d_In_settle_7 (by decide) (fun c_7 => absurd c_7 (by decide)) (fun _ => ?_)
  refine lv_iconst (v := (-1)) hx hb d_In_settle_10 (by decide) ?_
  exact W.iret (v := (-1)) hx hb hr (fun t ht hW => ⟨⟨_, (), rfl, rfl, by rw [ht]; exact hP, va_K.moved hW.alike hK, hD⟩, hS.F ht⟩) hS.2.2 d_In_settle_11
set_option maxHeartbeats 4000000 in
set_option maxRecDepth 100000 in
/-- read with nothing on the tape -/
theorem m_PS_read0 (l : Launch) (dC : Nat → ClassId) (dI : Nat → Nat → Nat) (cI cB cL cZ cR : ClassId) (hlt : xl_T l) (h rp rr sk b_y fr ta it fo : Nat) (ps_sha ps_view ps_text ps_maker ps_recording ps_lastFault sk_firstDependency sk_firstChange sk_dependencies sk_hashes sk_byHash sk_leansOn sk_leantBy sk_changes sk_lines it_stock it_changes it_lines it_sha it_named it_linesOfFile it_nextFile it_nextLine : Value) (NB NF NT : Nat) (bf ff tf : Nat → Int32) (g : Nat → Nat) (rf : Nat → Option Nat) (p0 : Int32) (sz : Nat) (hrf : ∀ k, k < 8 → rf k = some (g k)) (hrr_rr : ∀ n, n < 8 → p0 = nI n → g n = rr) (hff : ff 0 = 0) (hNB : NB < 2 ^ 31) (hNT : NT < 2 ^ 31) (hNF : NF < 2 ^ 31) (hpn : 0 + 1 < NF) : xc_Met l y_PS_read ws_PS_read ({ frames := 14, cells := 2, slots := 12, locals := 400 }) (xw_Px dC dI [(cI, .int), (cB, .byte), (cL, .long), (cZ, .boolean), (cR, .object "PatchStore$Repository")] [.ref h, .int p0] [(h, .inr (0, [.ref ta, .ref rp, ps_sha, .ref sk, .ref it, ps_view, ps_text, ps_maker, ps_recording, .int 0, ps_lastFault])), (rp, .inl (cR, 8, .inr (.inr (.inr (.inr rf))))), (sk, .inr (9, [.ref b_y, .ref fr, sk_firstDependency, sk_firstChange, sk_dependencies, sk_hashes, sk_byHash, sk_leansOn, sk_leantBy, sk_changes, sk_lines, .int 0])), (b_y, .inl (cB, NB, .inl bf)), (fr, .inl (cI, NF, .inl ff)), (ta, .inl (cB, NT, .inl tf)), (it, .inr (3, [it_stock, it_changes, it_lines, it_sha, .ref fo, it_named, it_linesOfFile, it_nextFile, it_nextLine])), (fo, .inr (2, [.ref sk]))] sz) (xc_Q (S := Unit) (fun _ (_ : Unit) => False) (fun C (_ : Unit) => ((¬ ∃ n : Nat, n < 8 ∧ p0 = nI n) ∧ C = "java/util/NoSuchElementException") ∨ ((∃ n : Nat, n < 8 ∧ p0 = nI n) ∧ C = "java/lang/IllegalArgumentException")) (fun _ _ => True) (va_A [(h, .inr (0, [.ref ta, .ref rp, ps_sha, .ref sk, .ref it, ps_view, ps_text, ps_maker, ps_recording, .int 0, ps_lastFault])), (rp, .inl (cR, 8, .inr (.inr (.inr (.inr rf))))), (sk, .inr (9, [.ref b_y, .ref fr, sk_firstDependency, sk_firstChange, sk_dependencies, sk_hashes, sk_byHash, sk_leansOn, sk_leantBy, sk_changes, sk_lines, .int 0])), (b_y, .inl (cB, NB, .inl bf)), (fr, .inl (cI, NF, .inl ff)), (ta, .inl (cB, NT, .inl tf)), (it, .inr (3, [it_stock, it_changes, it_lines, it_sha, .ref fo, it_named, it_linesOfFile, it_nextFile, it_nextLine])), (fo, .inr (2, [.ref sk]))] sz)) 2 12 (va_A [(h, .inr (0, [.ref ta, .ref rp, ps_sha, .ref sk, .ref it, ps_view, ps_text, ps_maker, ps_recording, .int 0, ps_lastFault])), (rp, .inl (cR, 8, .inr (.inr (.inr (.inr rf))))), (sk, .inr (9, [.ref b_y, .ref fr, sk_firstDependency, sk_firstChange, sk_dependencies, sk_hashes, sk_byHash, sk_leansOn, sk_leantBy, sk_changes, sk_lines, .int 0])), (b_y, .inl (cB, NB, .inl bf)), (fr, .inl (cI, NF, .inl ff)), (ta, .inl (cB, NT, .inl tf)), (it, .inr (3, [it_stock, it_changes, it_lines, it_sha, .ref fo, it_named, it_linesOfFile, it_nextFile, it_nextLine])), (fo, .inr (2, [.ref sk]))] sz) := by
  refine xc_ofW (cc := prog_1_method_7_code) (maxL := 4) (ret := (Option.some Jvm.ClassFile.FieldType.int)) (by decide) rfl ?_
  intro p e s m args below meth c s₁ B hml hno hv
  obtain ⟨rfl, hsz, hP, hK, hD0, hN, hTh⟩ := hv
  have htr : e.platform.stackTraces = false := hlt e B.admits
  have hx := B.exec
  have hb := B.bytes
  have hr := B.returns
  have hts0 := atoms_spec (ws := ws_PS_read) B.pre
  have hts : ∀ w ∈ xg_1, w.before _ s = true := fun w h => hts0 w (List.mem_cons_of_mem _ h)
  have hown : s.vm.findClass "PatchStore" = some m.cls := findClass_of_methodNamed B.named
  have hlocks := B.notSynchronized
  subst hsz
  have hD := hD0.self (sz := s.heap.size)
  generalize hAe : va_A [(h, .inr (0, [.ref ta, .ref rp, ps_sha, .ref sk, .ref it, ps_view, ps_text, ps_maker, ps_recording, .int 0, ps_lastFault])), (rp, .inl (cR, 8, .inr (.inr (.inr (.inr rf))))), (sk, .inr (9, [.ref b_y, .ref fr, sk_firstDependency, sk_firstChange, sk_dependencies, sk_hashes, sk_byHash, sk_leansOn, sk_leantBy, sk_changes, sk_lines, .int 0])), (b_y, .inl (cB, NB, .inl bf)), (fr, .inl (cI, NF, .inl ff)), (ta, .inl (cB, NT, .inl tf)), (it, .inr (3, [it_stock, it_changes, it_lines, it_sha, .ref fo, it_named, it_linesOfFile, it_nextFile, it_nextLine])), (fo, .inr (2, [.ref sk]))] s.heap.size = A at hD hTh ⊢
  have hA : ∀ q : Nat, s.heap.size ≤ q → A q := fun q h => by rw [← hAe]; exact Or.inr h
  have hS : va_S A s.heap s.heap [] := va_S.rf
  have hl := lv_entry ([.ref h, .int p0]) (n := 4) (Nat.le_of_ble_eq_true rfl)
  rw [lg_entry_eq]
  generalize (lg_sl ([.ref h, .int p0]) ++ List.replicate (4 - (lg_sl ([.ref h, .int p0])).length) Slot.unset).toArray = ls at hl ⊢
  have hl : lv_has ls 4 [(0, .ref h), (1, .int p0)] := hl
  refine lv_aload_n hx hb d_PS_read_0 rfl (lv_at hl 0 rfl) ?_
  refine lv_iconst (v := 0) hx hb d_PS_read_1 (by decide) ?_
  refine va_put (D := (dC, dI)) (ci := 0) (v := .int 0) (ty := .int) (C := R_PS) (T := F_PS) (N := 11) hx hb hts i_PS t_PS t_PS_ok n_PS hown hK hP hD hS 0 rfl rfl 10 (by decide) (hts _ gw_558) (fun _ h9 => h9) rfl (by decide +kernel) rfl rfl (Nat.le_of_ble_eq_true rfl) d_PS_read_2 (fun H locs hP hD hS => ?_)
  have hP : va_P (dC, dI) classes [(h, .inr (0, [.ref ta, .ref rp, ps_sha, .ref sk, .ref it, ps_view, ps_text, ps_maker, ps_recording, .int 0, .int 0])), (rp, .inl (cR, 8, .inr (.inr (.inr (.inr rf))))), (sk, .inr (9, [.ref b_y, .ref fr, sk_firstDependency, sk_firstChange, sk_dependencies, sk_hashes, sk_byHash, sk_leansOn, sk_leantBy, sk_changes, sk_lines, .int 0])), (b_y, .inl (cB, NB, .inl bf)), (fr, .inl (cI, NF, .inl ff)), (ta, .inl (cB, NT, .inl tf)), (it, .inr (3, [it_stock, it_changes, it_lines, it_sha, .ref fo, it_named, it_linesOfFile, it_nextFile, it_nextLine])), (fo, .inr (2, [.ref sk]))] H := hP
  have hD : va_D A [(h, .inr (0, [.ref ta, .ref rp, ps_sha, .ref sk, .ref it, ps_view, ps_text, ps_maker, ps_recording, .int 0, .int 0])), (rp, .inl (cR, 8, .inr (.inr (.inr (.inr rf))))), (sk, .inr (9, [.ref b_y, .ref fr, sk_firstDependency, sk_firstChange, sk_dependencies, sk_hashes, sk_byHash, sk_leansOn, sk_leantBy, sk_changes, sk_lines, .int 0])), (b_y, .inl (cB, NB, .inl bf)), (fr, .inl (cI, NF, .inl ff)), (ta, .inl (cB, NT, .inl tf)), (it, .inr (3, [it_stock, it_changes, it_lines, it_sha, .ref fo, it_named, it_linesOfFile, it_nextFile, it_nextLine])), (fo, .inr (2, [.ref sk]))] := hD
  refine lv_aload_n hx hb d_PS_read_5 rfl (lv_at hl 0 rfl) ?_
  refine lv_iload_n hx hb d_PS_read_6 rfl (lv_at hl 1 rfl) ?_
  have hPc := hP.sub (ws' := [(h, .inr (0, [.ref ta, .ref rp, ps_sha, .ref sk, .ref it, ps_view, ps_text, ps_maker, ps_recording, .int 0, .int 0])), (rp, .inl (cR, 8, .inr (.inr (.inr (.inr rf)))))]) [0, 1] rfl
  have hDc := hD.sub (ws' := [(h, .inr (0, [.ref ta, .ref rp, ps_sha, .ref sk, .ref it, ps_view, ps_text, ps_maker, ps_recording, .int 0, .int 0])), (rp, .inl (cR, 8, .inr (.inr (.inr (.inr rf)))))]) [0, 1] (by decide) rfl
  have hFc := va_free (wc := [(h, .inr (0, [.ref ta, .ref rp, ps_sha, .ref sk, .ref it, ps_view, ps_text, ps_maker, ps_recording, .int 0, .int 0])), (rp, .inl (cR, 8, .inr (.inr (.inr (.inr rf)))))]) hD hS hA [0, 1] rfl
  refine xc_call (xc_runV (As := [.int p0]) (rest := []) (C := "PatchStore") ⟨hx, hb, hml, hown, hts⟩ (m_PS_repositoryAt l dC dI cI cB cL cZ cR hlt h rp (.ref ta) (ps_sha) (.ref sk) (.ref it) (ps_view) (ps_text) (ps_maker) (ps_recording) (.int 0) (.int 0) g rf p0 H.size hrf) (xc_bOf 1 hts (xg_in gw_703) (xc_Is.code (hts _ gw_703)) rfl rfl (hts _ gw_1) (by decide +kernel) ⟨Nat.le_of_ble_eq_true rfl, Nat.le_of_ble_eq_true rfl⟩) (hts _ gw_700) (hts _ gw_702) (hts _ (xg_p 2 (q := (⟨"PatchStore", "repositoryAt", "(I)LPatchStore$Repository;"⟩, 11)) (by decide +kernel))) ⟨xw_blindx, va_recv hK hPc (ci := 0) (q0 := 0) rfl rfl, fun U hU hW => ⟨rfl, by rw [hU], by rw [hU]; exact hPc, va_K.moved hW.alike hK, hDc.weaken (fun _ _ _ _ => trivial), xg_N.warm hW hN, by rw [hU]; exact ((hTh.kept (fun a h1 h2 => hS.2.1 a h1 h2)).narrow hFc).moved hW.alike⟩⟩ rfl rfl hl.1 rfl (lv_room (Nat.le_of_ble_eq_true rfl)) d_PS_read_7 ⟨Nat.le_of_ble_eq_true rfl, Nat.le_of_ble_eq_true rfl⟩) hS (fun q _ h => hFc q h) hFc (fun v9 u t H1 locs ht hvm hw hB hz1 hk1 hS => ?_) (fun x9 C9 u t H1 locs ht hvm hw hex hB hz1 hk1 hS => ?_)
  · obtain ⟨n0, hn0, en0, rfl⟩ := hw
    rw [hrr_rr n0 hn0 en0]
    obtain ⟨hP1, hK1, hD1⟩ := hB
    rw [ht] at hP1
    obtain ⟨hP, hD⟩ := va_join (wr := [(sk, .inr (9, [.ref b_y, .ref fr, sk_firstDependency, sk_firstChange, sk_dependencies, sk_hashes, sk_byHash, sk_leansOn, sk_leantBy, sk_changes, sk_lines, .int 0])), (b_y, .inl (cB, NB, .inl bf)), (fr, .inl (cI, NF, .inl ff)), (ta, .inl (cB, NT, .inl tf)), (it, .inr (3, [it_stock, it_changes, it_lines, it_sha, .ref fo, it_named, it_linesOfFile, it_nextFile, it_nextLine])), (fo, .inr (2, [.ref sk]))]) (w1 := [(h, .inr (0, [.ref ta, .ref rp, ps_sha, .ref sk, .ref it, ps_view, ps_text, ps_maker, ps_recording, .int 0, .int 0])), (rp, .inl (cR, 8, .inr (.inr (.inr (.inr rf)))))]) hP hD [0, 1] [2, 3, 4, 5, 6, 7] rfl rfl (by decide) (by decide) hk1 hFc hP1 hD1
    generalize H1 = H at hP hS ht ⊢
    have hP : va_P (dC, dI) classes [(sk, .inr (9, [.ref b_y, .ref fr, sk_firstDependency, sk_firstChange, sk_dependencies, sk_hashes, sk_byHash, sk_leansOn, sk_leantBy, sk_changes, sk_lines, .int 0])), (b_y, .inl (cB, NB, .inl bf)), (fr, .inl (cI, NF, .inl ff)), (ta, .inl (cB, NT, .inl tf)), (it, .inr (3, [it_stock, it_changes, it_lines, it_sha, .ref fo, it_named, it_linesOfFile, it_nextFile, it_nextLine])), (fo, .inr (2, [.ref sk])), (h, .inr (0, [.ref ta, .ref rp, ps_sha, .ref sk, .ref it, ps_view, ps_text, ps_maker, ps_recording, .int 0, .int 0])), (rp, .inl (cR, 8, .inr (.inr (.inr (.inr rf)))))] H := hP
    have hD : va_D A [(sk, .inr (9, [.ref b_y, .ref fr, sk_firstDependency, sk_firstChange, sk_dependencies, sk_hashes, sk_byHash, sk_leansOn, sk_leantBy, sk_changes, sk_lines, .int 0])), (b_y, .inl (cB, NB, .inl bf)), (fr, .inl (cI, NF, .inl ff)), (ta, .inl (cB, NT, .inl tf)), (it, .inr (3, [it_stock, it_changes, it_lines, it_sha, .ref fo, it_named, it_linesOfFile, it_nextFile, it_nextLine])), (fo, .inr (2, [.ref sk])), (h, .inr (0, [.ref ta, .ref rp, ps_sha, .ref sk, .ref it, ps_view, ps_text, ps_maker, ps_recording, .int 0, .int 0])), (rp, .inl (cR, 8, .inr (.inr (.inr (.inr rf)))))] := hD
    refine W.eq (g2 := F0 m 10 ls [.ref rr]) rfl ?_
    refine W.widen (k := 1) (n := 6) (Nat.le_of_ble_eq_true rfl) (Nat.le_of_ble_eq_true rfl) ?_
    refine lv_astore_n (lv' := [(2, .ref rr), (0, .ref h), (1, .int p0)]) hx hb d_PS_read_10 rfl hl (by decide) rfl (fun ls hl => ?_)
    refine lv_aload_n hx hb d_PS_read_11 rfl (lv_at hl 1 rfl) ?_
    refine va_get (D := (dC, dI)) (ci := 0) (v := .ref sk) (C := R_PS) (T := F_PS) (N := 11) hx hb hts i_PS hown hK hP 6 rfl rfl 3 (by decide) (hts _ gw_551) (fun _ h9 => h9) rfl d_PS_read_12 ?_
    refine lv_aload_n hx hb d_PS_read_15 rfl (lv_at hl 1 rfl) ?_
    refine va_get (D := (dC, dI)) (ci := 0) (v := .ref ta) (C := R_PS) (T := F_PS) (N := 11) hx hb hts i_PS hown hK hP 6 rfl rfl 0 (by decide) (hts _ gw_548) (fun _ h9 => h9) rfl d_PS_read_16 ?_
    refine lv_aload_n hx hb d_PS_read_19 rfl (lv_at hl 1 rfl) ?_
    refine va_get (D := (dC, dI)) (ci := 0) (v := .int 0) (C := R_PS) (T := F_PS) (N := 11) hx hb hts i_PS hown hK hP 6 rfl rfl 9 (by decide) (hts _ gw_557) (fun _ h9 => h9) rfl d_PS_read_20 ?_
    have hPc := hP.sub (ws' := [(sk, .inr (9, [.ref b_y, .ref fr, sk_firstDependency, sk_firstChange, sk_dependencies, sk_hashes, sk_byHash, sk_leansOn, sk_leantBy, sk_changes, sk_lines, .int 0])), (b_y, .inl (cB, NB, .inl bf)), (fr, .inl (cI, NF, .inl ff)), (ta, .inl (cB, NT, .inl tf))]) [0, 1, 2, 3] rfl
    have hDc := hD.sub (ws' := [(sk, .inr (9, [.ref b_y, .ref fr, sk_firstDependency, sk_firstChange, sk_dependencies, sk_hashes, sk_byHash, sk_leansOn, sk_leantBy, sk_changes, sk_lines, .int 0])), (b_y, .inl (cB, NB, .inl bf)), (fr, .inl (cI, NF, .inl ff)), (ta, .inl (cB, NT, .inl tf))]) [0, 1, 2, 3] (by decide) rfl
    have hFc := va_free (wc := [(sk, .inr (9, [.ref b_y, .ref fr, sk_firstDependency, sk_firstChange, sk_dependencies, sk_hashes, sk_byHash, sk_leansOn, sk_leantBy, sk_changes, sk_lines, .int 0])), (b_y, .inl (cB, NB, .inl bf)), (fr, .inl (cI, NF, .inl ff)), (ta, .inl (cB, NT, .inl tf))]) hD hS hA [0, 1, 2, 3] rfl
    refine va_callv (va_runV (As := [.ref ta, .int 0]) (rest := []) ⟨hx, hb, hml, hown, hts⟩ (m_St_lay l dC dI cI cB cL cZ cR sk b_y fr ta (sk_firstDependency) (sk_firstChange) (sk_dependencies) (sk_hashes) (sk_byHash) (sk_leansOn) (sk_leantBy) (sk_changes) (sk_lines) NB NF NT 0 0 0 bf ff tf H.size hff hNB (by omega) hNT (by omega) hNF hpn (fun i hi => absurd hi (Nat.not_lt_zero i))) (cwV 2 hts (xg_V gw_1207 gw_1208 gw_1209 gw_3 gw_1210) rfl rfl rfl (by decide +kernel) ⟨Nat.le_of_ble_eq_true rfl, Nat.le_of_ble_eq_true rfl⟩) ⟨xw_blind, va_recv hK hPc (ci := 9) (q0 := 0) rfl rfl, fun U hU hW => ⟨rfl, by rw [hU], by rw [hU]; exact hPc, va_K.moved hW.alike hK, hDc.weaken (fun _ _ _ _ => trivial)⟩⟩ rfl rfl hl.1 rfl (lv_room (Nat.le_of_ble_eq_true rfl)) d_PS_read_23 ⟨Nat.le_of_ble_eq_true rfl, Nat.le_of_ble_eq_true rfl⟩) hS (fun q _ h => hFc q h) hFc (fun u t H1 locs ht hvm hw hB hz1 hk1 hS => ?_)
    obtain ⟨hP1, hK1, hD1⟩ := hB
    rw [ht] at hP1
    obtain ⟨hP, hD⟩ := va_join (wr := [(it, .inr (3, [it_stock, it_changes, it_lines, it_sha, .ref fo, it_named, it_linesOfFile, it_nextFile, it_nextLine])), (fo, .inr (2, [.ref sk])), (h, .inr (0, [.ref ta, .ref rp, ps_sha, .ref sk, .ref it, ps_view, ps_text, ps_maker, ps_recording, .int 0, .int 0])), (rp, .inl (cR, 8, .inr (.inr (.inr (.inr rf)))))]) (w1 := [(sk, .inr (9, [.ref b_y, .ref fr, sk_firstDependency, sk_firstChange, sk_dependencies, sk_hashes, sk_byHash, sk_leansOn, sk_leantBy, sk_changes, sk_lines, .int 0])), (b_y, .inl (cB, NB, .inl (va_cpy tf bf 0 0 0))), (fr, .inl (cI, NF, .inl (upd ff 1 0))), (ta, .inl (cB, NT, .inl tf))]) hP hD [0, 1, 2, 3] [4, 5, 6, 7] rfl rfl (by decide) (by decide) hk1 hFc hP1 hD1
    generalize H1 = H at hP hS ⊢
    have hP : va_P (dC, dI) classes [(it, .inr (3, [it_stock, it_changes, it_lines, it_sha, .ref fo, it_named, it_linesOfFile, it_nextFile, it_nextLine])), (fo, .inr (2, [.ref sk])), (h, .inr (0, [.ref ta, .ref rp, ps_sha, .ref sk, .ref it, ps_view, ps_text, ps_maker, ps_recording, .int 0, .int 0])), (rp, .inl (cR, 8, .inr (.inr (.inr (.inr rf))))), (sk, .inr (9, [.ref b_y, .ref fr, sk_firstDependency, sk_firstChange, sk_dependencies, sk_hashes, sk_byHash, sk_leansOn, sk_leantBy, sk_changes, sk_lines, .int 0])), (b_y, .inl (cB, NB, .inl (va_cpy tf bf 0 0 0))), (fr, .inl (cI, NF, .inl (upd ff 1 0))), (ta, .inl (cB, NT, .inl tf))] H := hP
    have hD : va_D A [(it, .inr (3, [it_stock, it_changes, it_lines, it_sha, .ref fo, it_named, it_linesOfFile, it_nextFile, it_nextLine])), (fo, .inr (2, [.ref sk])), (h, .inr (0, [.ref ta, .ref rp, ps_sha, .ref sk, .ref it, ps_view, ps_text, ps_maker, ps_recording, .int 0, .int 0])), (rp, .inl (cR, 8, .inr (.inr (.inr (.inr rf))))), (sk, .inr (9, [.ref b_y, .ref fr, sk_firstDependency, sk_firstChange, sk_dependencies, sk_hashes, sk_byHash, sk_leansOn, sk_leantBy, sk_changes, sk_lines, .int 0])), (b_y, .inl (cB, NB, .inl (va_cpy tf bf 0 0 0))), (fr, .inl (cI, NF, .inl (upd ff 1 0))), (ta, .inl (cB, NT, .inl tf))] := hD
    refine lv_aload_n hx hb d_PS_read_26 rfl (lv_at hl 1 rfl) ?_
    refine va_get (D := (dC, dI)) (ci := 0) (v := .ref it) (C := R_PS) (T := F_PS) (N := 11) hx hb hts i_PS hown hK hP 2 rfl rfl 4 (by decide) (hts _ gw_552) (fun _ h9 => h9) rfl d_PS_read_27 ?_
    refine lv_aload_n hx hb d_PS_read_30 rfl (lv_at hl 0 rfl) ?_
    have hPc := hP.sub (ws' := [(it, .inr (3, [it_stock, it_changes, it_lines, it_sha, .ref fo, it_named, it_linesOfFile, it_nextFile, it_nextLine])), (fo, .inr (2, [.ref sk])), (sk, .inr (9, [.ref b_y, .ref fr, sk_firstDependency, sk_firstChange, sk_dependencies, sk_hashes, sk_byHash, sk_leansOn, sk_leantBy, sk_changes, sk_lines, .int 0])), (fr, .inl (cI, NF, .inl (upd ff 1 0)))]) [0, 1, 4, 6] rfl
    have hDc := hD.sub (ws' := [(it, .inr (3, [it_stock, it_changes, it_lines, it_sha, .ref fo, it_named, it_linesOfFile, it_nextFile, it_nextLine])), (fo, .inr (2, [.ref sk])), (sk, .inr (9, [.ref b_y, .ref fr, sk_firstDependency, sk_firstChange, sk_dependencies, sk_hashes, sk_byHash, sk_leansOn, sk_leantBy, sk_changes, sk_lines, .int 0])), (fr, .inl (cI, NF, .inl (upd ff 1 0)))]) [0, 1, 4, 6] (by decide) rfl
    have hFc := va_free (wc := [(it, .inr (3, [it_stock, it_changes, it_lines, it_sha, .ref fo, it_named, it_linesOfFile, it_nextFile, it_nextLine])), (fo, .inr (2, [.ref sk])), (sk, .inr (9, [.ref b_y, .ref fr, sk_firstDependency, sk_firstChange, sk_dependencies, sk_hashes, sk_byHash, sk_leansOn, sk_leantBy, sk_changes, sk_lines, .int 0])), (fr, .inl (cI, NF, .inl (upd ff 1 0)))]) hD hS hA [0, 1, 4, 6] rfl
    refine va_calli (va_runV (As := [.ref rr]) (rest := []) ⟨hx, hb, hml, hown, hts⟩ (m_It_settle0 l dC dI cI cB cL cZ cR it fo sk fr rr (it_stock) (it_changes) (it_lines) (it_sha) (it_named) (it_linesOfFile) (it_nextFile) (it_nextLine)  (.ref b_y) (sk_firstDependency) (sk_firstChange) (sk_dependencies) (sk_hashes) (sk_byHash) (sk_leansOn) (sk_leantBy) (sk_changes) (sk_lines) NF 0 0 0 (upd ff 1 0) H.size (by rw [pk_un (by decide)]; exact hff) (by rw [pk_us]; rfl) (by decide) (by decide) hNF hpn) (cwV 1 hts (xg_V gw_762 gw_763 gw_764 gw_6 gw_765) rfl rfl rfl (by decide +kernel) ⟨Nat.le_of_ble_eq_true rfl, Nat.le_of_ble_eq_true rfl⟩) ⟨xw_blind, va_recv hK hPc (ci := 3) (q0 := 0) rfl rfl, fun U hU hW => ⟨rfl, by rw [hU], by rw [hU]; exact hPc, va_K.moved hW.alike hK, hDc.weaken (fun _ _ _ _ => trivial)⟩⟩ rfl rfl hl.1 rfl (lv_room (Nat.le_of_ble_eq_true rfl)) d_PS_read_31 ⟨Nat.le_of_ble_eq_true rfl, Nat.le_of_ble_eq_true rfl⟩) hS (fun q _ h => hFc q h) hFc (fun r9 u t H1 locs ht hvm hw hB hz1 hk1 hS => ?_)
    obtain ⟨hP1, hK1, hD1⟩ := hB
    rw [ht] at hP1
    obtain ⟨hP, hD⟩ := va_join (wr := [(h, .inr (0, [.ref ta, .ref rp, ps_sha, .ref sk, .ref it, ps_view, ps_text, ps_maker, ps_recording, .int 0, .int 0])), (rp, .inl (cR, 8, .inr (.inr (.inr (.inr rf))))), (b_y, .inl (cB, NB, .inl (va_cpy tf bf 0 0 0))), (ta, .inl (cB, NT, .inl tf))]) (w1 := [(it, .inr (3, [it_stock, it_changes, it_lines, it_sha, .ref fo, it_named, it_linesOfFile, it_nextFile, it_nextLine])), (fo, .inr (2, [.ref sk])), (sk, .inr (9, [.ref b_y, .ref fr, sk_firstDependency, sk_firstChange, sk_dependencies, sk_hashes, sk_byHash, sk_leansOn, sk_leantBy, sk_changes, sk_lines, .int 0])), (fr, .inl (cI, NF, .inl (upd ff 1 0)))]) hP hD [0, 1, 4, 6] [2, 3, 5, 7] rfl rfl (by decide) (by decide) hk1 hFc hP1 hD1
    generalize H1 = H at hP hS ⊢
    have hP : va_P (dC, dI) classes [(h, .inr (0, [.ref ta, .ref rp, ps_sha, .ref sk, .ref it, ps_view, ps_text, ps_maker, ps_recording, .int 0, .int 0])), (rp, .inl (cR, 8, .inr (.inr (.inr (.inr rf))))), (b_y, .inl (cB, NB, .inl (va_cpy tf bf 0 0 0))), (ta, .inl (cB, NT, .inl tf)), (it, .inr (3, [it_stock, it_changes, it_lines, it_sha, .ref fo, it_named, it_linesOfFile, it_nextFile, it_nextLine])), (fo, .inr (2, [.ref sk])), (sk, .inr (9, [.ref b_y, .ref fr, sk_firstDependency, sk_firstChange, sk_dependencies, sk_hashes, sk_byHash, sk_leansOn, sk_leantBy, sk_changes, sk_lines, .int 0])), (fr, .inl (cI, NF, .inl (upd ff 1 0)))] H := hP
    have hD : va_D A [(h, .inr (0, [.ref ta, .ref rp, ps_sha, .ref sk, .ref it, ps_view, ps_text, ps_maker, ps_recording, .int 0, .int 0])), (rp, .inl (cR, 8, .inr (.inr (.inr (.inr rf))))), (b_y, .inl (cB, NB, .inl (va_cpy tf bf 0 0 0))), (ta, .inl (cB, NT, .inl tf)), (it, .inr (3, [it_stock, it_changes, it_lines, it_sha, .ref fo, it_named, it_linesOfFile, it_nextFile, it_nextLine])), (fo, .inr (2, [.ref sk])), (sk, .inr (9, [.ref b_y, .ref fr, sk_firstDependency, sk_firstChange, sk_dependencies, sk_hashes, sk_byHash, sk_leansOn, sk_leantBy, sk_changes, sk_lines, .int 0])), (fr, .inl (cI, NF, .inl (upd ff 1 0)))] := hD
    subst hw
    refine lv_istore_n (lv' := [(3, .int (-1)), (2, .ref rr), (0, .ref h), (1, .int p0)]) hx hb d_PS_read_34 rfl hl (by decide) rfl (fun ls hl => ?_)
    refine lv_iload_n hx hb d_PS_read_35 rfl (lv_at hl 0 rfl) ?_
    refine lv_if_ge (tgt := 59) hx hb d_PS_read_36 (by decide) (fun c_36 => absurd c_36 (by decide)) (fun _ => ?_)
    refine lv_iload_n hx hb d_PS_read_39 rfl (lv_at hl 0 rfl) ?_
    refine lv_bipush (v := (-5)) hx hb d_PS_read_40 (by decide) ?_
    refine lv_icmp_eq (tgt := 59) hx hb d_PS_read_42 (by decide) (fun c_42 => absurd c_42 (by decide)) (fun _ => ?_)
    refine lv_aload_n hx hb d_PS_read_45 rfl (lv_at hl 2 rfl) ?_
    refine lv_iload_n hx hb d_PS_read_46 rfl (lv_at hl 0 rfl) ?_
    refine lv_ineg hx hb d_PS_read_47 ?_
    refine va_put (D := (dC, dI)) (ci := 0) (v := .int (-(-1))) (ty := .int) (C := R_PS) (T := F_PS) (N := 11) hx hb hts i_PS t_PS t_PS_ok n_PS hown hK hP hD hS 0 rfl rfl 10 (by decide) (hts _ gw_558) (fun _ h9 => h9) rfl (by decide +kernel) rfl rfl (Nat.le_of_ble_eq_true rfl) d_PS_read_48 (fun H locs hP hD hS => ?_)
    have hP : va_P (dC, dI) classes [(h, .inr (0, [.ref ta, .ref rp, ps_sha, .ref sk, .ref it, ps_view, ps_text, ps_maker, ps_recording, .int 0, .int (-(-1))])), (rp, .inl (cR, 8, .inr (.inr (.inr (.inr rf))))), (b_y, .inl (cB, NB, .inl (va_cpy tf bf 0 0 0))), (ta, .inl (cB, NT, .inl tf)), (it, .inr (3, [it_stock, it_changes, it_lines, it_sha, .ref fo, it_named, it_linesOfFile, it_nextFile, it_nextLine])), (fo, .inr (2, [.ref sk])), (sk, .inr (9, [.ref b_y, .ref fr, sk_firstDependency, sk_firstChange, sk_dependencies, sk_hashes, sk_byHash, sk_leansOn, sk_leantBy, sk_changes, sk_lines, .int 0])), (fr, .inl (cI, NF, .inl (upd ff 1 0)))] H := hP
    have hD : va_D A [(h, .inr (0, [.ref ta, .ref rp, ps_sha, .ref sk, .ref it, ps_view, ps_text, ps_maker, ps_recording, .int 0, .int (-(-1))])), (rp, .inl (cR, 8, .inr (.inr (.inr (.inr rf))))), (b_y, .inl (cB, NB, .inl (va_cpy tf bf 0 0 0))), (ta, .inl (cB, NT, .inl tf)), (it, .inr (3, [it_stock, it_changes, it_lines, it_sha, .ref fo, it_named, it_linesOfFile, it_nextFile, it_nextLine])), (fo, .inr (2, [.ref sk])), (sk, .inr (9, [.ref b_y, .ref fr, sk_firstDependency, sk_firstChange, sk_dependencies, sk_hashes, sk_byHash, sk_leansOn, sk_leantBy, sk_changes, sk_lines, .int 0])), (fr, .inl (cI, NF, .inl (upd ff 1 0)))] := hD
    refine xc_thrownew (A := A) (own := "PatchStore") (C := "java/lang/IllegalArgumentException") (names := ["java/lang/RuntimeException", "java/lang/Exception"]) (i1 := 87) (i2 := 89) hx hb hml hl.1 hown hlocks hno htr (by decide +kernel) (by decide +kernel) (tw_PS_87 hts hN) (tr_PS_87) (ti_PS_87) (hTh.1.kept (fun a h1 h2 => hS.2.1 a h1 h2)) d_PS_read_51 d_PS_read_54 d_PS_read_55 d_PS_read_58 (Nat.le_of_ble_eq_true rfl) (Nat.le_of_ble_eq_true rfl) (Nat.le_of_ble_eq_true rfl) (Nat.le_of_ble_eq_true rfl) (fun x9 t9 H9 e1 e2 e3 hW9 hex => ⟨Or.inr ⟨x9, "java/lang/IllegalArgumentException", (), rfl, Or.inr ⟨⟨n0, hn0, en0⟩, rfl⟩, hex, trivial⟩, (by rw [e1]; exact Nat.le_trans hS.1 e2), fun q h1 h2 => by rw [e1]; exact (e3 q (Nat.lt_of_lt_of_le h1 hS.1)).trans (hS.2.1 q h1 h2)⟩) hS.2.2
  · obtain ⟨hbad, rfl⟩ := hw
    refine xc_TW.widen (k := 2) (n := 12) (Nat.le_of_ble_eq_true rfl) (Nat.le_of_ble_eq_true rfl) ?_
    exact xc_pass (u := ()) hlocks hno ht hvm hex (Or.inl ⟨hbad, rfl⟩) (fun _ _ _ => trivial) hS
