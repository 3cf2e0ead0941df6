/-! 27.ops1.lean.txt -/
theorem gw_532 : (Jvm.Cond.fieldLink "PatchStore" (193 : Nat) "PatchStore$Repository" "size" "I") ∈ xg_1 := xg_s3 52 rfl rfl
theorem gw_826 : (Jvm.Cond.instanceMethod ({ cls := "PatchStore$Repository", name := "holds", desc := "(I)Z" } : Jvm.MethodName)) ∈ xg_1 := xg_s4 106 rfl rfl
theorem gw_827 : (Jvm.Cond.selects "PatchStore$Repository" ({ cls := "PatchStore$Repository", name := "holds", desc := "(I)Z" } : Jvm.MethodName) ({ cls := "PatchStore$Repository", name := "holds", desc := "(I)Z" } : Jvm.MethodName)) ∈ xg_1 := xg_s4 107 rfl rfl
theorem gw_828 : (Jvm.Cond.code ({ cls := "PatchStore$Repository", name := "holds", desc := "(I)Z" } : Jvm.MethodName) prog_8_method_2_code (2 : Nat) (Option.some Jvm.ClassFile.FieldType.boolean)) ∈ xg_1 := xg_s4 108 rfl rfl
theorem gw_1240 : (Jvm.Cond.methodLink "PatchStore" (171 : Nat) ({ cls := "PatchStore$Repository", name := "holds", desc := "(I)Z" } : Jvm.MethodName)) ∈ xg_1 := xg_s6 40 rfl rfl
theorem gw_1316 : (Jvm.Cond.methodLink "PatchStore" (217 : Nat) ({ cls := "PatchStore$View", name := "countManyNamed", desc := "()I" } : Jvm.MethodName)) ∈ xg_1 := xg_s6 116 rfl rfl
theorem gw_1317 : (Jvm.Cond.instanceMethod ({ cls := "PatchStore$View", name := "countManyNamed", desc := "()I" } : Jvm.MethodName)) ∈ xg_1 := xg_s6 117 rfl rfl
theorem gw_1318 : (Jvm.Cond.selects "PatchStore$View" ({ cls := "PatchStore$View", name := "countManyNamed", desc := "()I" } : Jvm.MethodName) ({ cls := "PatchStore$View", name := "countManyNamed", desc := "()I" } : Jvm.MethodName)) ∈ xg_1 := xg_s6 118 rfl rfl
theorem gw_1319 : (Jvm.Cond.code ({ cls := "PatchStore$View", name := "countManyNamed", desc := "()I" } : Jvm.MethodName) prog_12_method_7_code (3 : Nat) (Option.some Jvm.ClassFile.FieldType.int)) ∈ xg_1 := xg_s6 119 rfl rfl
theorem gw_1320 : (Jvm.Cond.methodLink "PatchStore" (221 : Nat) ({ cls := "PatchStore$View", name := "countSharing", desc := "()I" } : Jvm.MethodName)) ∈ xg_1 := xg_s6 120 rfl rfl
theorem gw_1321 : (Jvm.Cond.instanceMethod ({ cls := "PatchStore$View", name := "countSharing", desc := "()I" } : Jvm.MethodName)) ∈ xg_1 := xg_s6 121 rfl rfl
theorem gw_1322 : (Jvm.Cond.selects "PatchStore$View" ({ cls := "PatchStore$View", name := "countSharing", desc := "()I" } : Jvm.MethodName) ({ cls := "PatchStore$View", name := "countSharing", desc := "()I" } : Jvm.MethodName)) ∈ xg_1 := xg_s6 122 rfl rfl
theorem gw_1323 : (Jvm.Cond.code ({ cls := "PatchStore$View", name := "countSharing", desc := "()I" } : Jvm.MethodName) prog_12_method_8_code (3 : Nat) (Option.some Jvm.ClassFile.FieldType.int)) ∈ xg_1 := xg_s6 123 rfl rfl
def y_Re_holds : MethodName := ⟨"PatchStore$Repository", "holds", "(I)Z"⟩
abbrev c_Re_holds : Cond := (Jvm.Cond.code ({ cls := "PatchStore$Repository", name := "holds", desc := "(I)Z" } : Jvm.MethodName) prog_8_method_2_code (2 : Nat) (Option.some Jvm.ClassFile.FieldType.boolean))
abbrev ws_Re_holds : List Cond := c_Re_holds :: xg_1
theorem d_Re_holds_0 : decode prog_8_method_2_code 0 = .ok (.iload_n 1, 1) := by decide +kernel
theorem d_Re_holds_1 : decode prog_8_method_2_code 1 = .ok (.ifCond .lt 35, 3) := by decide +kernel
theorem d_Re_holds_4 : decode prog_8_method_2_code 4 = .ok (.iload_n 1, 1) := by decide +kernel
theorem d_Re_holds_5 : decode prog_8_method_2_code 5 = .ok (.sipush 500, 3) := by decide +kernel
theorem d_Re_holds_8 : decode prog_8_method_2_code 8 = .ok (.if_icmp .ge 28, 3) := by decide +kernel
theorem d_Re_holds_11 : decode prog_8_method_2_code 11 = .ok (.aload_n 0, 1) := by decide +kernel
theorem d_Re_holds_12 : decode prog_8_method_2_code 12 = .ok (.getfield 9, 3) := by decide +kernel
theorem d_Re_holds_15 : decode prog_8_method_2_code 15 = .ok (.iload_n 1, 1) := by decide +kernel
theorem d_Re_holds_16 : decode prog_8_method_2_code 16 = .ok (.bipush 6, 2) := by decide +kernel
theorem d_Re_holds_18 : decode prog_8_method_2_code 18 = .ok (.ishr, 1) := by decide +kernel
theorem d_Re_holds_19 : decode prog_8_method_2_code 19 = .ok (.laload, 1) := by decide +kernel
theorem d_Re_holds_20 : decode prog_8_method_2_code 20 = .ok (.iload_n 1, 1) := by decide +kernel
theorem d_Re_holds_21 : decode prog_8_method_2_code 21 = .ok (.bipush 63, 2) := by decide +kernel
theorem d_Re_holds_23 : decode prog_8_method_2_code 23 = .ok (.iand, 1) := by decide +kernel
theorem d_Re_holds_24 : decode prog_8_method_2_code 24 = .ok (.lshr, 1) := by decide +kernel
theorem d_Re_holds_25 : decode prog_8_method_2_code 25 = .ok (.lconst 1, 1) := by decide +kernel
theorem d_Re_holds_26 : decode prog_8_method_2_code 26 = .ok (.land, 1) := by decide +kernel
theorem d_Re_holds_27 : decode prog_8_method_2_code 27 = .ok (.lconst 0, 1) := by decide +kernel
theorem d_Re_holds_28 : decode prog_8_method_2_code 28 = .ok (.lcmp, 1) := by decide +kernel
theorem d_Re_holds_29 : decode prog_8_method_2_code 29 = .ok (.ifCond .eq 7, 3) := by decide +kernel
theorem d_Re_holds_32 : decode prog_8_method_2_code 32 = .ok (.iconst 1, 1) := by decide +kernel
theorem d_Re_holds_33 : decode prog_8_method_2_code 33 = .ok (.goto 4, 3) := by decide +kernel
theorem d_Re_holds_36 : decode prog_8_method_2_code 36 = .ok (.iconst 0, 1) := by decide +kernel
theorem d_Re_holds_37 : decode prog_8_method_2_code 37 = .ok (.ireturn, 1) := by decide +kernel
def y_PS_drop : MethodName := ⟨"PatchStore", "drop", "(II)I"⟩
abbrev c_PS_drop : Cond := (Jvm.Cond.code ({ cls := "PatchStore", name := "drop", desc := "(II)I" } : Jvm.MethodName) prog_1_method_11_code (4 : Nat) (Option.some Jvm.ClassFile.FieldType.int))
abbrev ws_PS_drop : List Cond := c_PS_drop :: xg_1
theorem d_PS_drop_0 : decode prog_1_method_11_code 0 = .ok (.aload_n 0, 1) := by decide +kernel
theorem d_PS_drop_1 : decode prog_1_method_11_code 1 = .ok (.iload_n 1, 1) := by decide +kernel
theorem d_PS_drop_2 : decode prog_1_method_11_code 2 = .ok (.invokevirtual 90, 3) := by decide +kernel
theorem d_PS_drop_5 : decode prog_1_method_11_code 5 = .ok (.astore_n 3, 1) := by decide +kernel
theorem d_PS_drop_6 : decode prog_1_method_11_code 6 = .ok (.aload_n 3, 1) := by decide +kernel
theorem d_PS_drop_7 : decode prog_1_method_11_code 7 = .ok (.iload_n 2, 1) := by decide +kernel
theorem d_PS_drop_8 : decode prog_1_method_11_code 8 = .ok (.invokevirtual 171, 3) := by decide +kernel
theorem d_PS_drop_11 : decode prog_1_method_11_code 11 = .ok (.ifCond .ne 11, 3) := by decide +kernel
theorem d_PS_drop_14 : decode prog_1_method_11_code 14 = .ok (.new 174, 3) := by decide +kernel
theorem d_PS_drop_17 : decode prog_1_method_11_code 17 = .ok (.dup, 1) := by decide +kernel
theorem d_PS_drop_18 : decode prog_1_method_11_code 18 = .ok (.invokespecial 176, 3) := by decide +kernel
theorem d_PS_drop_21 : decode prog_1_method_11_code 21 = .ok (.athrow, 1) := by decide +kernel
theorem d_PS_drop_22 : decode prog_1_method_11_code 22 = .ok (.aload_n 3, 1) := by decide +kernel
theorem d_PS_drop_23 : decode prog_1_method_11_code 23 = .ok (.aload_n 0, 1) := by decide +kernel
theorem d_PS_drop_24 : decode prog_1_method_11_code 24 = .ok (.getfield 30, 3) := by decide +kernel
theorem d_PS_drop_27 : decode prog_1_method_11_code 27 = .ok (.getfield 184, 3) := by decide +kernel
theorem d_PS_drop_30 : decode prog_1_method_11_code 30 = .ok (.iload_n 2, 1) := by decide +kernel
theorem d_PS_drop_31 : decode prog_1_method_11_code 31 = .ok (.invokevirtual 187, 3) := by decide +kernel
theorem d_PS_drop_34 : decode prog_1_method_11_code 34 = .ok (.ifCond .le 11, 3) := by decide +kernel
theorem d_PS_drop_37 : decode prog_1_method_11_code 37 = .ok (.new 80, 3) := by decide +kernel
theorem d_PS_drop_40 : decode prog_1_method_11_code 40 = .ok (.dup, 1) := by decide +kernel
theorem d_PS_drop_41 : decode prog_1_method_11_code 41 = .ok (.invokespecial 82, 3) := by decide +kernel
theorem d_PS_drop_44 : decode prog_1_method_11_code 44 = .ok (.athrow, 1) := by decide +kernel
theorem d_PS_drop_45 : decode prog_1_method_11_code 45 = .ok (.aload_n 3, 1) := by decide +kernel
theorem d_PS_drop_46 : decode prog_1_method_11_code 46 = .ok (.iload_n 2, 1) := by decide +kernel
theorem d_PS_drop_47 : decode prog_1_method_11_code 47 = .ok (.invokevirtual 190, 3) := by decide +kernel
theorem d_PS_drop_50 : decode prog_1_method_11_code 50 = .ok (.aload_n 3, 1) := by decide +kernel
theorem d_PS_drop_51 : decode prog_1_method_11_code 51 = .ok (.getfield 193, 3) := by decide +kernel
theorem d_PS_drop_54 : decode prog_1_method_11_code 54 = .ok (.ireturn, 1) := by decide +kernel
def y_Vw_countManyNamed : MethodName := ⟨"PatchStore$View", "countManyNamed", "()I"⟩
abbrev c_Vw_countManyNamed : Cond := (Jvm.Cond.code ({ cls := "PatchStore$View", name := "countManyNamed", desc := "()I" } : Jvm.MethodName) prog_12_method_7_code (3 : Nat) (Option.some Jvm.ClassFile.FieldType.int))
abbrev ws_Vw_countManyNamed : List Cond := c_Vw_countManyNamed :: xg_1
theorem d_Vw_countManyNamed_0 : decode prog_12_method_7_code 0 = .ok (.iconst 0, 1) := by decide +kernel
theorem d_Vw_countManyNamed_1 : decode prog_12_method_7_code 1 = .ok (.istore_n 1, 1) := by decide +kernel
theorem d_Vw_countManyNamed_2 : decode prog_12_method_7_code 2 = .ok (.iconst 0, 1) := by decide +kernel
theorem d_Vw_countManyNamed_3 : decode prog_12_method_7_code 3 = .ok (.istore_n 2, 1) := by decide +kernel
theorem d_Vw_countManyNamed_4 : decode prog_12_method_7_code 4 = .ok (.iload_n 2, 1) := by decide +kernel
theorem d_Vw_countManyNamed_5 : decode prog_12_method_7_code 5 = .ok (.aload_n 0, 1) := by decide +kernel
theorem d_Vw_countManyNamed_6 : decode prog_12_method_7_code 6 = .ok (.getfield 79, 3) := by decide +kernel
theorem d_Vw_countManyNamed_9 : decode prog_12_method_7_code 9 = .ok (.if_icmp .ge 27, 3) := by decide +kernel
theorem d_Vw_countManyNamed_12 : decode prog_12_method_7_code 12 = .ok (.aload_n 0, 1) := by decide +kernel
theorem d_Vw_countManyNamed_13 : decode prog_12_method_7_code 13 = .ok (.getfield 15, 3) := by decide +kernel
theorem d_Vw_countManyNamed_16 : decode prog_12_method_7_code 16 = .ok (.aload_n 0, 1) := by decide +kernel
theorem d_Vw_countManyNamed_17 : decode prog_12_method_7_code 17 = .ok (.getfield 9, 3) := by decide +kernel
theorem d_Vw_countManyNamed_20 : decode prog_12_method_7_code 20 = .ok (.iload_n 2, 1) := by decide +kernel
theorem d_Vw_countManyNamed_21 : decode prog_12_method_7_code 21 = .ok (.iaload, 1) := by decide +kernel
theorem d_Vw_countManyNamed_22 : decode prog_12_method_7_code 22 = .ok (.iaload, 1) := by decide +kernel
theorem d_Vw_countManyNamed_23 : decode prog_12_method_7_code 23 = .ok (.iconst 1, 1) := by decide +kernel
theorem d_Vw_countManyNamed_24 : decode prog_12_method_7_code 24 = .ok (.if_icmp .le 6, 3) := by decide +kernel
theorem d_Vw_countManyNamed_27 : decode prog_12_method_7_code 27 = .ok (.iinc 1 1, 3) := by decide +kernel
theorem d_Vw_countManyNamed_30 : decode prog_12_method_7_code 30 = .ok (.iinc 2 1, 3) := by decide +kernel
theorem d_Vw_countManyNamed_33 : decode prog_12_method_7_code 33 = .ok (.goto (-29), 3) := by decide +kernel
theorem d_Vw_countManyNamed_36 : decode prog_12_method_7_code 36 = .ok (.iload_n 1, 1) := by decide +kernel
theorem d_Vw_countManyNamed_37 : decode prog_12_method_7_code 37 = .ok (.ireturn, 1) := by decide +kernel
def y_Vw_countSharing : MethodName := ⟨"PatchStore$View", "countSharing", "()I"⟩
abbrev c_Vw_countSharing : Cond := (Jvm.Cond.code ({ cls := "PatchStore$View", name := "countSharing", desc := "()I" } : Jvm.MethodName) prog_12_method_8_code (3 : Nat) (Option.some Jvm.ClassFile.FieldType.int))
abbrev ws_Vw_countSharing : List Cond := c_Vw_countSharing :: xg_1
theorem d_Vw_countSharing_0 : decode prog_12_method_8_code 0 = .ok (.aload_n 0, 1) := by decide +kernel
theorem d_Vw_countSharing_1 : decode prog_12_method_8_code 1 = .ok (.getfield 25, 3) := by decide +kernel
theorem d_Vw_countSharing_4 : decode prog_12_method_8_code 4 = .ok (.iconst (-1), 1) := by decide +kernel
theorem d_Vw_countSharing_5 : decode prog_12_method_8_code 5 = .ok (.invokestatic 70, 3) := by decide +kernel
theorem d_Vw_countSharing_8 : decode prog_12_method_8_code 8 = .ok (.aload_n 0, 1) := by decide +kernel
theorem d_Vw_countSharing_9 : decode prog_12_method_8_code 9 = .ok (.getfield 31, 3) := by decide +kernel
theorem d_Vw_countSharing_12 : decode prog_12_method_8_code 12 = .ok (.iconst 0, 1) := by decide +kernel
theorem d_Vw_countSharing_13 : decode prog_12_method_8_code 13 = .ok (.invokestatic 70, 3) := by decide +kernel
theorem d_Vw_countSharing_16 : decode prog_12_method_8_code 16 = .ok (.iconst 0, 1) := by decide +kernel
theorem d_Vw_countSharing_17 : decode prog_12_method_8_code 17 = .ok (.istore_n 1, 1) := by decide +kernel
theorem d_Vw_countSharing_18 : decode prog_12_method_8_code 18 = .ok (.iload_n 1, 1) := by decide +kernel
theorem d_Vw_countSharing_19 : decode prog_12_method_8_code 19 = .ok (.aload_n 0, 1) := by decide +kernel
theorem d_Vw_countSharing_20 : decode prog_12_method_8_code 20 = .ok (.getfield 76, 3) := by decide +kernel
theorem d_Vw_countSharing_23 : decode prog_12_method_8_code 23 = .ok (.if_icmp .ge 14, 3) := by decide +kernel
theorem d_Vw_countSharing_26 : decode prog_12_method_8_code 26 = .ok (.aload_n 0, 1) := by decide +kernel
theorem d_Vw_countSharing_27 : decode prog_12_method_8_code 27 = .ok (.iload_n 1, 1) := by decide +kernel
theorem d_Vw_countSharing_28 : decode prog_12_method_8_code 28 = .ok (.invokevirtual 117, 3) := by decide +kernel
theorem d_Vw_countSharing_31 : decode prog_12_method_8_code 31 = .ok (.iinc 1 1, 3) := by decide +kernel
theorem d_Vw_countSharing_34 : decode prog_12_method_8_code 34 = .ok (.goto (-16), 3) := by decide +kernel
theorem d_Vw_countSharing_37 : decode prog_12_method_8_code 37 = .ok (.iconst 0, 1) := by decide +kernel
theorem d_Vw_countSharing_38 : decode prog_12_method_8_code 38 = .ok (.istore_n 1, 1) := by decide +kernel
theorem d_Vw_countSharing_39 : decode prog_12_method_8_code 39 = .ok (.iconst 0, 1) := by decide +kernel
theorem d_Vw_countSharing_40 : decode prog_12_method_8_code 40 = .ok (.istore_n 2, 1) := by decide +kernel
theorem d_Vw_countSharing_41 : decode prog_12_method_8_code 41 = .ok (.iload_n 2, 1) := by decide +kernel
theorem d_Vw_countSharing_42 : decode prog_12_method_8_code 42 = .ok (.aload_n 0, 1) := by decide +kernel
theorem d_Vw_countSharing_43 : decode prog_12_method_8_code 43 = .ok (.getfield 79, 3) := by decide +kernel
theorem d_Vw_countSharing_46 : decode prog_12_method_8_code 46 = .ok (.if_icmp .ge 23, 3) := by decide +kernel
theorem d_Vw_countSharing_49 : decode prog_12_method_8_code 49 = .ok (.iload_n 1, 1) := by decide +kernel
theorem d_Vw_countSharing_50 : decode prog_12_method_8_code 50 = .ok (.aload_n 0, 1) := by decide +kernel
theorem d_Vw_countSharing_51 : decode prog_12_method_8_code 51 = .ok (.getfield 31, 3) := by decide +kernel
theorem d_Vw_countSharing_54 : decode prog_12_method_8_code 54 = .ok (.aload_n 0, 1) := by decide +kernel
theorem d_Vw_countSharing_55 : decode prog_12_method_8_code 55 = .ok (.getfield 9, 3) := by decide +kernel
theorem d_Vw_countSharing_58 : decode prog_12_method_8_code 58 = .ok (.iload_n 2, 1) := by decide +kernel
theorem d_Vw_countSharing_59 : decode prog_12_method_8_code 59 = .ok (.iaload, 1) := by decide +kernel
theorem d_Vw_countSharing_60 : decode prog_12_method_8_code 60 = .ok (.iaload, 1) := by decide +kernel
theorem d_Vw_countSharing_61 : decode prog_12_method_8_code 61 = .ok (.iadd, 1) := by decide +kernel
theorem d_Vw_countSharing_62 : decode prog_12_method_8_code 62 = .ok (.istore_n 1, 1) := by decide +kernel
theorem d_Vw_countSharing_63 : decode prog_12_method_8_code 63 = .ok (.iinc 2 1, 3) := by decide +kernel
theorem d_Vw_countSharing_66 : decode prog_12_method_8_code 66 = .ok (.goto (-25), 3) := by decide +kernel
theorem d_Vw_countSharing_69 : decode prog_12_method_8_code 69 = .ok (.iload_n 1, 1) := by decide +kernel
theorem d_Vw_countSharing_70 : decode prog_12_method_8_code 70 = .ok (.ireturn, 1) := by decide +kernel
def y_PS_about : MethodName := ⟨"PatchStore", "about", "(II)I"⟩
abbrev c_PS_about : Cond := (Jvm.Cond.code ({ cls := "PatchStore", name := "about", desc := "(II)I" } : Jvm.MethodName) prog_1_method_15_code (4 : Nat) (Option.some Jvm.ClassFile.FieldType.int))
abbrev ws_PS_about : List Cond := c_PS_about :: xg_1
theorem d_PS_about_0 : decode prog_1_method_15_code 0 = .ok (.aload_n 0, 1) := by decide +kernel
theorem d_PS_about_1 : decode prog_1_method_15_code 1 = .ok (.iload_n 1, 1) := by decide +kernel
theorem d_PS_about_2 : decode prog_1_method_15_code 2 = .ok (.invokevirtual 90, 3) := by decide +kernel
theorem d_PS_about_5 : decode prog_1_method_15_code 5 = .ok (.astore_n 3, 1) := by decide +kernel
theorem d_PS_about_6 : decode prog_1_method_15_code 6 = .ok (.aload_n 0, 1) := by decide +kernel
theorem d_PS_about_7 : decode prog_1_method_15_code 7 = .ok (.getfield 48, 3) := by decide +kernel
theorem d_PS_about_10 : decode prog_1_method_15_code 10 = .ok (.aload_n 3, 1) := by decide +kernel
theorem d_PS_about_11 : decode prog_1_method_15_code 11 = .ok (.invokevirtual 211, 3) := by decide +kernel
theorem d_PS_about_14 : decode prog_1_method_15_code 14 = .ok (.iload_n 2, 1) := by decide +kernel
theorem d_PS_about_15 : decode prog_1_method_15_code 15 = .ok (.tableswitch 58 0 3 #[29, 34, 42, 50], 29) := by decide +kernel
theorem d_PS_about_44 : decode prog_1_method_15_code 44 = .ok (.aload_n 3, 1) := by decide +kernel
theorem d_PS_about_45 : decode prog_1_method_15_code 45 = .ok (.getfield 193, 3) := by decide +kernel
theorem d_PS_about_48 : decode prog_1_method_15_code 48 = .ok (.ireturn, 1) := by decide +kernel
theorem d_PS_about_49 : decode prog_1_method_15_code 49 = .ok (.aload_n 0, 1) := by decide +kernel
theorem d_PS_about_50 : decode prog_1_method_15_code 50 = .ok (.getfield 48, 3) := by decide +kernel
theorem d_PS_about_53 : decode prog_1_method_15_code 53 = .ok (.getfield 214, 3) := by decide +kernel
theorem d_PS_about_56 : decode prog_1_method_15_code 56 = .ok (.ireturn, 1) := by decide +kernel
theorem d_PS_about_57 : decode prog_1_method_15_code 57 = .ok (.aload_n 0, 1) := by decide +kernel
theorem d_PS_about_58 : decode prog_1_method_15_code 58 = .ok (.getfield 48, 3) := by decide +kernel
theorem d_PS_about_61 : decode prog_1_method_15_code 61 = .ok (.invokevirtual 217, 3) := by decide +kernel
theorem d_PS_about_64 : decode prog_1_method_15_code 64 = .ok (.ireturn, 1) := by decide +kernel
theorem d_PS_about_65 : decode prog_1_method_15_code 65 = .ok (.aload_n 0, 1) := by decide +kernel
theorem d_PS_about_66 : decode prog_1_method_15_code 66 = .ok (.getfield 48, 3) := by decide +kernel
theorem d_PS_about_69 : decode prog_1_method_15_code 69 = .ok (.invokevirtual 221, 3) := by decide +kernel
theorem d_PS_about_72 : decode prog_1_method_15_code 72 = .ok (.ireturn, 1) := by decide +kernel
theorem d_PS_about_73 : decode prog_1_method_15_code 73 = .ok (.new 87, 3) := by decide +kernel
theorem d_PS_about_76 : decode prog_1_method_15_code 76 = .ok (.dup, 1) := by decide +kernel
theorem d_PS_about_77 : decode prog_1_method_15_code 77 = .ok (.invokespecial 89, 3) := by decide +kernel
theorem d_PS_about_80 : decode prog_1_method_15_code 80 = .ok (.athrow, 1) := by decide +kernel
def re_bit (mw : Nat → Int64) (n : Nat) : Prop := ¬ lg_cmp ((mw (n / 64) >>> ((nI (n % 64)).toInt64 &&& 63)) &&& 1) 0 = 0
def re_ok (mw : Nat → Int64) (x : Int32) : Prop := ∃ n : Nat, n < 500 ∧ x = nI n ∧ re_bit mw n
theorem re_z : ∀ k, k < 64 → lg_cmp (((0 : Int64) >>> ((nI k).toInt64 &&& 63)) &&& 1) 0 = 0 := by decide +kernel
theorem re_no (x : Int32) {mw : Nat → Int64} (h : ∀ j, j < 8 → mw j = 0) : ¬ re_ok mw x := by
  rintro ⟨n, hn, -, hb⟩
  apply hb
  rw [h (n / 64) (by omega)]
  exact re_z (n % 64) (Nat.mod_lt _ (by decide))
set_option maxHeartbeats 4000000 in
set_option maxRecDepth 100000 in
/-- Repository.holds -/
theorem m_Re_holds (l : Launch) (dC : Nat → ClassId) (dI : Nat → Nat → Nat) (cI cB cL cZ cR : ClassId) (h mb : Nat) (rr_digest rr_size rr_version rr_digestVersion : Value) (mw : Nat → Int64) (p0 : Int32) (sz : Nat) : Met l y_Re_holds ws_Re_holds ({ frames := 0, cells := 0, slots := 0, locals := 0 }) (xw_Pc dC dI [(cI, .int), (cB, .byte), (cL, .long), (cZ, .boolean), (cR, .object "PatchStore$Repository")] [.ref h, .int p0] [(h, .inr (7, [.ref mb, rr_digest, rr_size, rr_version, rr_digestVersion])), (mb, .inl (cL, 8, .inr (.inl mw)))] sz) (va_Qi (fun (r : Int32) (_ : Unit) => (r = 1 ∧ re_ok mw p0) ∨ (r = 0 ∧ ¬ re_ok mw p0)) (fun _ t => xw_B dC dI [(cI, .int), (cB, .byte), (cL, .long), (cZ, .boolean), (cR, .object "PatchStore$Repository")] (va_A [(h, .inr (7, [.ref mb, rr_digest, rr_size, rr_version, rr_digestVersion])), (mb, .inl (cL, 8, .inr (.inl mw)))] sz) [(h, .inr (7, [.ref mb, rr_digest, rr_size, rr_version, rr_digestVersion])), (mb, .inl (cL, 8, .inr (.inl mw)))] t) (va_A [(h, .inr (7, [.ref mb, rr_digest, rr_size, rr_version, rr_digestVersion])), (mb, .inl (cL, 8, .inr (.inl mw)))] sz)) 0 0 (va_A [(h, .inr (7, [.ref mb, rr_digest, rr_size, rr_version, rr_digestVersion])), (mb, .inl (cL, 8, .inr (.inl mw)))] sz) := by
  refine Met.ofW (cc := prog_8_method_2_code) (maxL := 2) (ret := (Option.some Jvm.ClassFile.FieldType.boolean)) (by decide) rfl ?_
  intro p e s m args below meth c s₁ B hml hv
  obtain ⟨rfl, hsz, hP, hK, hD0⟩ := hv
  have hx := B.exec
  have hb := B.bytes
  have hr := B.returns
  have hts0 := atoms_spec (ws := ws_Re_holds) B.pre
  have hts : ∀ w ∈ xg_1, w.before _ s = true := fun w h => hts0 w (List.mem_cons_of_mem _ h)
  have hown : s.vm.findClass "PatchStore$Repository" = some m.cls := findClass_of_methodNamed B.named
  have hlocks := B.notSynchronized
  subst hsz
  have hD := hD0.self (sz := s.heap.size)
  generalize hAe : va_A [(h, .inr (7, [.ref mb, rr_digest, rr_size, rr_version, rr_digestVersion])), (mb, .inl (cL, 8, .inr (.inl mw)))] s.heap.size = A at hD ⊢
  have hA : ∀ q : Nat, s.heap.size ≤ q → A q := fun q h => by rw [← hAe]; exact Or.inr h
  have hS : va_S A s.heap s.heap [] := va_S.rf
  have hl := lv_entry ([.ref h, .int p0]) (n := 2) (Nat.le_of_ble_eq_true rfl)
  rw [lg_entry_eq]
  generalize (lg_sl ([.ref h, .int p0]) ++ List.replicate (2 - (lg_sl ([.ref h, .int p0])).length) Slot.unset).toArray = ls at hl ⊢
  have hl : lv_has ls 2 [(0, .ref h), (1, .int p0)] := hl
  refine lv_iload_n hx hb d_Re_holds_0 rfl (lv_at hl 1 rfl) ?_
  refine lv_if_lt (tgt := 36) hx hb d_Re_holds_1 (by decide) (fun c_1 => ?_) (fun c_1 => ?_)
  · have hpost : (0 : Int32) = 1 ∧ re_ok mw p0 ∨ (0 : Int32) = 0 ∧ ¬ re_ok mw p0 := Or.inr ⟨rfl, by rintro ⟨n, hn, rfl, -⟩; exact nI_pos (by omega) c_1⟩
    refine lv_iconst (v := 0) hx hb d_Re_holds_36 (by decide) ?_
    exact W.zret (v := 0) hx hb hr nz_b0 (fun t ht hW => ⟨⟨_, (), rfl, hpost, by rw [ht]; exact hP, va_K.moved hW.alike hK, hD⟩, hS.F ht⟩) hS.2.2 d_Re_holds_37
  · refine lv_iload_n hx hb d_Re_holds_4 rfl (lv_at hl 1 rfl) ?_
    refine lv_sipush (v := 500) hx hb d_Re_holds_5 (by decide) ?_
    refine lv_icmp_ge (tgt := 36) hx hb d_Re_holds_8 (by decide) (fun c_8 => ?_) (fun c_8 => ?_)
    · have hpost : (0 : Int32) = 1 ∧ re_ok mw p0 ∨ (0 : Int32) = 0 ∧ ¬ re_ok mw p0 := Or.inr ⟨rfl, by rintro ⟨n, hn, rfl, -⟩; exact nI_ge (b := 500) hn (by decide) c_8⟩
      refine lv_iconst (v := 0) hx hb d_Re_holds_36 (by decide) ?_
      exact W.zret (v := 0) hx hb hr nz_b0 (fun t ht hW => ⟨⟨_, (), rfl, hpost, by rw [ht]; exact hP, va_K.moved hW.alike hK, hD⟩, hS.F ht⟩) hS.2.2 d_Re_holds_37
    · obtain ⟨n0, hn0, hp0⟩ := nI_of c_1
      subst hp0
      have hn5 : n0 < 500 := by rcases Nat.lt_or_ge n0 500 with z | z; exact z; exact absurd (nI_le (a := 500) z hn0) c_8
      refine lv_aload_n hx hb d_Re_holds_11 rfl (lv_at hl 0 rfl) ?_
      refine va_get (D := (dC, dI)) (ci := 7) (v := .ref mb) (C := R_Re) (T := F_Re) (N := 5) hx hb hts i_Re hown hK hP 0 rfl rfl 0 (by decide) (hts _ gw_527) (fun _ h9 => h9) rfl d_Re_holds_12 ?_
      refine lv_iload_n hx hb d_Re_holds_15 rfl (lv_at hl 1 rfl) ?_
      refine lv_bipush (v := 6) hx hb d_Re_holds_16 (by decide) ?_
      refine lv_ishr hx hb d_Re_holds_18 ?_
      refine lv_topi (fun x_1 ex_1 => ?_)
      obtain rfl : x_1 = nI (n0 / 64) := by rw [ex_1]; first | done | (exact pk_shrN hn0 _ 6 (by decide))
      refine va_lald hx hb hK hP 1 2 rfl rfl (vp_in_nI (by omega) (by omega)) d_Re_holds_19 ?_
      rw [show (nI (n0 / 64)).toNatClampNeg = (n0 / 64) from nI_clamp (by omega)]
      refine lv_iload_n hx hb d_Re_holds_20 rfl (lv_at hl 1 rfl) ?_
      refine lv_bipush (v := 63) hx hb d_Re_holds_21 (by decide) ?_
      refine lv_iand hx hb d_Re_holds_23 ?_
      refine lv_topi (fun x_2 ex_2 => ?_)
      obtain rfl : x_2 = nI (n0 % 64) := by rw [ex_2]; first | done | (exact pk_andN (by omega) 6 (by decide))
      refine lv_lshr hx hb d_Re_holds_24 rfl ?_
      refine lv_lconst (v := 1) hx hb d_Re_holds_25 (by decide) ?_
      refine lv_land hx hb d_Re_holds_26 ?_
      refine lv_lconst (v := 0) hx hb d_Re_holds_27 (by decide) ?_
      refine W.lcmp hx hb d_Re_holds_28 ?_
      refine lv_if_eq (tgt := 36) hx hb d_Re_holds_29 (by decide) (fun c_29 => ?_) (fun c_29 => ?_)
      · have hpost : (0 : Int32) = 1 ∧ re_ok mw (nI n0) ∨ (0 : Int32) = 0 ∧ ¬ re_ok mw (nI n0) := Or.inr ⟨rfl, by rintro ⟨n, hn, e9, hb9⟩; obtain rfl := (nI_eq (by omega) (by omega)).mp e9; exact hb9 c_29⟩
        refine lv_iconst (v := 0) hx hb d_Re_holds_36 (by decide) ?_
        exact W.zret (v := 0) hx hb hr nz_b0 (fun t ht hW => ⟨⟨_, (), rfl, hpost, by rw [ht]; exact hP, va_K.moved hW.alike hK, hD⟩, hS.F ht⟩) hS.2.2 d_Re_holds_37
      · have hpost : (1 : Int32) = 1 ∧ re_ok mw (nI n0) ∨ (1 : Int32) = 0 ∧ ¬ re_ok mw (nI n0) := Or.inl ⟨rfl, n0, hn5, rfl, c_29⟩
        refine lv_iconst (v := 1) hx hb d_Re_holds_32 (by decide) ?_
        refine lv_goto (tgt := 37) hx hb d_Re_holds_33 (by decide) ?_
        exact W.zret (v := 1) hx hb hr nz_b1 (fun t ht hW => ⟨⟨_, (), rfl, hpost, by rw [ht]; exact hP, va_K.moved hW.alike hK, hD⟩, hS.F ht⟩) hS.2.2 d_Re_holds_37
set_option maxHeartbeats 4000000 in
set_option maxRecDepth 100000 in
/-- drop on a fresh object -/
theorem m_PS_drop0 (l : Launch) (dC : Nat → ClassId) (dI : Nat → Nat → Nat) (cI cB cL cZ cR : ClassId) (hlt : xl_T l) (h rp rr mb : Nat) (ps_tape ps_sha ps_stock ps_intake ps_view ps_text ps_maker ps_recording ps_tapeLength ps_lastFault rr_digest rr_size rr_version rr_digestVersion : Value) (mw : Nat → Int64) (g : Nat → Nat) (rf : Nat → Option Nat) (p0 p1 : Int32) (sz : Nat) (hrf : ∀ k, k < 8 → rf k = some (g k)) (hrr_rr : ∀ n, n < 8 → p0 = nI n → g n = rr) (hz : ∀ j, j < 8 → mw j = 0) : xc_Met l y_PS_drop ws_PS_drop ({ frames := 14, cells := 2, slots := 12, locals := 400 }) (xw_Px dC dI [(cI, .int), (cB, .byte), (cL, .long), (cZ, .boolean), (cR, .object "PatchStore$Repository")] [.ref h, .int p0, .int p1] [(h, .inr (0, [ps_tape, .ref rp, ps_sha, ps_stock, ps_intake, ps_view, ps_text, ps_maker, ps_recording, ps_tapeLength, ps_lastFault])), (rp, .inl (cR, 8, .inr (.inr (.inr (.inr rf))))), (rr, .inr (7, [.ref mb, rr_digest, rr_size, rr_version, rr_digestVersion])), (mb, .inl (cL, 8, .inr (.inl mw)))] sz) (xc_Q (S := Unit) (fun _ (_ : Unit) => False) (fun C (_ : Unit) => ((¬ ∃ n : Nat, n < 8 ∧ p0 = nI n) ∧ C = "java/util/NoSuchElementException") ∨ ((∃ n : Nat, n < 8 ∧ p0 = nI n) ∧ C = "java/util/NoSuchElementException")) (fun _ _ => True) (va_A [(h, .inr (0, [ps_tape, .ref rp, ps_sha, ps_stock, ps_intake, ps_view, ps_text, ps_maker, ps_recording, ps_tapeLength, ps_lastFault])), (rp, .inl (cR, 8, .inr (.inr (.inr (.inr rf))))), (rr, .inr (7, [.ref mb, rr_digest, rr_size, rr_version, rr_digestVersion])), (mb, .inl (cL, 8, .inr (.inl mw)))] sz)) 2 12 (va_A [(h, .inr (0, [ps_tape, .ref rp, ps_sha, ps_stock, ps_intake, ps_view, ps_text, ps_maker, ps_recording, ps_tapeLength, ps_lastFault])), (rp, .inl (cR, 8, .inr (.inr (.inr (.inr rf))))), (rr, .inr (7, [.ref mb, rr_digest, rr_size, rr_version, rr_digestVersion])), (mb, .inl (cL, 8, .inr (.inl mw)))] sz) := by
  refine xc_ofW (cc := prog_1_method_11_code) (maxL := 4) (ret := (Option.some Jvm.ClassFile.FieldType.int)) (by decide) rfl ?_
  intro p e s m args below meth c s₁ B hml hno hv
  obtain ⟨rfl, hsz, hP, hK, hD0, hN, hTh⟩ := hv
  have htr : e.platform.stackTraces = false := hlt e B.admits
  have hx := B.exec
  have hb := B.bytes
  have hr := B.returns
  have hts0 := atoms_spec (ws := ws_PS_drop) B.pre
  have hts : ∀ w ∈ xg_1, w.before _ s = true := fun w h => hts0 w (List.mem_cons_of_mem _ h)
  have hown : s.vm.findClass "PatchStore" = some m.cls := findClass_of_methodNamed B.named
  have hlocks := B.notSynchronized
  subst hsz
  have hD := hD0.self (sz := s.heap.size)
  generalize hAe : va_A [(h, .inr (0, [ps_tape, .ref rp, ps_sha, ps_stock, ps_intake, ps_view, ps_text, ps_maker, ps_recording, ps_tapeLength, ps_lastFault])), (rp, .inl (cR, 8, .inr (.inr (.inr (.inr rf))))), (rr, .inr (7, [.ref mb, rr_digest, rr_size, rr_version, rr_digestVersion])), (mb, .inl (cL, 8, .inr (.inl mw)))] s.heap.size = A at hD hTh ⊢
  have hA : ∀ q : Nat, s.heap.size ≤ q → A q := fun q h => by rw [← hAe]; exact Or.inr h
  have hS : va_S A s.heap s.heap [] := va_S.rf
  have hl := lv_entry ([.ref h, .int p0, .int p1]) (n := 4) (Nat.le_of_ble_eq_true rfl)
  rw [lg_entry_eq]
  generalize (lg_sl ([.ref h, .int p0, .int p1]) ++ List.replicate (4 - (lg_sl ([.ref h, .int p0, .int p1])).length) Slot.unset).toArray = ls at hl ⊢
  have hl : lv_has ls 4 [(0, .ref h), (1, .int p0), (2, .int p1)] := hl
  refine lv_aload_n hx hb d_PS_drop_0 rfl (lv_at hl 0 rfl) ?_
  refine lv_iload_n hx hb d_PS_drop_1 rfl (lv_at hl 1 rfl) ?_
  have hPc := hP.sub (ws' := [(h, .inr (0, [ps_tape, .ref rp, ps_sha, ps_stock, ps_intake, ps_view, ps_text, ps_maker, ps_recording, ps_tapeLength, ps_lastFault])), (rp, .inl (cR, 8, .inr (.inr (.inr (.inr rf)))))]) [0, 1] rfl
  have hDc := hD.sub (ws' := [(h, .inr (0, [ps_tape, .ref rp, ps_sha, ps_stock, ps_intake, ps_view, ps_text, ps_maker, ps_recording, ps_tapeLength, ps_lastFault])), (rp, .inl (cR, 8, .inr (.inr (.inr (.inr rf)))))]) [0, 1] (by decide) rfl
  have hFc := va_free (wc := [(h, .inr (0, [ps_tape, .ref rp, ps_sha, ps_stock, ps_intake, ps_view, ps_text, ps_maker, ps_recording, ps_tapeLength, ps_lastFault])), (rp, .inl (cR, 8, .inr (.inr (.inr (.inr rf)))))]) hD hS hA [0, 1] rfl
  refine xc_call (xc_runV (As := [.int p0]) (rest := []) (C := "PatchStore") ⟨hx, hb, hml, hown, hts⟩ (m_PS_repositoryAt l dC dI cI cB cL cZ cR hlt h rp (ps_tape) (ps_sha) (ps_stock) (ps_intake) (ps_view) (ps_text) (ps_maker) (ps_recording) (ps_tapeLength) (ps_lastFault) g rf p0 s.heap.size hrf) (xc_bOf 1 hts (xg_in gw_703) (xc_Is.code (hts _ gw_703)) rfl rfl (hts _ gw_1) (by decide +kernel) ⟨Nat.le_of_ble_eq_true rfl, Nat.le_of_ble_eq_true rfl⟩) (hts _ gw_700) (hts _ gw_702) (hts _ (xg_p 2 (q := (⟨"PatchStore", "repositoryAt", "(I)LPatchStore$Repository;"⟩, 11)) (by decide +kernel))) ⟨xw_blindx, va_recv hK hPc (ci := 0) (q0 := 0) rfl rfl, fun U hU hW => ⟨rfl, by rw [hU], by rw [hU]; exact hPc, va_K.moved hW.alike hK, hDc.weaken (fun _ _ _ _ => trivial), xg_N.warm hW hN, by rw [hU]; exact ((hTh.kept (fun a h1 h2 => hS.2.1 a h1 h2)).narrow hFc).moved hW.alike⟩⟩ rfl rfl hl.1 rfl (lv_room (Nat.le_of_ble_eq_true rfl)) d_PS_drop_2 ⟨Nat.le_of_ble_eq_true rfl, Nat.le_of_ble_eq_true rfl⟩) hS (fun q _ h => hFc q h) hFc (fun v9 u t H1 locs ht hvm hw hB hz1 hk1 hS => ?_) (fun x9 C9 u t H1 locs ht hvm hw hex hB hz1 hk1 hS => ?_)
  · obtain ⟨n0, hn0, en0, rfl⟩ := hw
    rw [hrr_rr n0 hn0 en0]
    obtain ⟨hP1, hK1, hD1⟩ := hB
    rw [ht] at hP1
    obtain ⟨hP, hD⟩ := va_join (wr := [(rr, .inr (7, [.ref mb, rr_digest, rr_size, rr_version, rr_digestVersion])), (mb, .inl (cL, 8, .inr (.inl mw)))]) (w1 := [(h, .inr (0, [ps_tape, .ref rp, ps_sha, ps_stock, ps_intake, ps_view, ps_text, ps_maker, ps_recording, ps_tapeLength, ps_lastFault])), (rp, .inl (cR, 8, .inr (.inr (.inr (.inr rf)))))]) hP hD [0, 1] [2, 3] rfl rfl (by decide) (by decide) hk1 hFc hP1 hD1
    generalize H1 = H at hP hS ht ⊢
    have hP : va_P (dC, dI) classes [(rr, .inr (7, [.ref mb, rr_digest, rr_size, rr_version, rr_digestVersion])), (mb, .inl (cL, 8, .inr (.inl mw))), (h, .inr (0, [ps_tape, .ref rp, ps_sha, ps_stock, ps_intake, ps_view, ps_text, ps_maker, ps_recording, ps_tapeLength, ps_lastFault])), (rp, .inl (cR, 8, .inr (.inr (.inr (.inr rf)))))] H := hP
    have hD : va_D A [(rr, .inr (7, [.ref mb, rr_digest, rr_size, rr_version, rr_digestVersion])), (mb, .inl (cL, 8, .inr (.inl mw))), (h, .inr (0, [ps_tape, .ref rp, ps_sha, ps_stock, ps_intake, ps_view, ps_text, ps_maker, ps_recording, ps_tapeLength, ps_lastFault])), (rp, .inl (cR, 8, .inr (.inr (.inr (.inr rf)))))] := hD
    refine W.eq (g2 := F0 m 5 ls [.ref rr]) rfl ?_
    refine W.widen (k := 1) (n := 6) (Nat.le_of_ble_eq_true rfl) (Nat.le_of_ble_eq_true rfl) ?_
    refine lv_astore_n (lv' := [(3, .ref rr), (0, .ref h), (1, .int p0), (2, .int p1)]) hx hb d_PS_drop_5 rfl hl (by decide) rfl (fun ls hl => ?_)
    refine lv_aload_n hx hb d_PS_drop_6 rfl (lv_at hl 0 rfl) ?_
    refine lv_iload_n hx hb d_PS_drop_7 rfl (lv_at hl 3 rfl) ?_
    have hPc := hP.sub (ws' := [(rr, .inr (7, [.ref mb, rr_digest, rr_size, rr_version, rr_digestVersion])), (mb, .inl (cL, 8, .inr (.inl mw)))]) [0, 1] rfl
    have hDc := hD.sub (ws' := [(rr, .inr (7, [.ref mb, rr_digest, rr_size, rr_version, rr_digestVersion])), (mb, .inl (cL, 8, .inr (.inl mw)))]) [0, 1] (by decide) rfl
    have hFc := va_free (wc := [(rr, .inr (7, [.ref mb, rr_digest, rr_size, rr_version, rr_digestVersion])), (mb, .inl (cL, 8, .inr (.inl mw)))]) hD hS hA [0, 1] rfl
    refine va_calli (va_runV (As := [.int p1]) (rest := []) ⟨hx, hb, hml, hown, hts⟩ (m_Re_holds l dC dI cI cB cL cZ cR rr mb (rr_digest) (rr_size) (rr_version) (rr_digestVersion) mw p1 H.size ) (cwV 1 hts (xg_V gw_1240 gw_826 gw_827 gw_12 gw_828) rfl rfl rfl (by decide +kernel) ⟨Nat.le_of_ble_eq_true rfl, Nat.le_of_ble_eq_true rfl⟩) ⟨xw_blind, va_recv hK hPc (ci := 7) (q0 := 0) rfl rfl, fun U hU hW => ⟨rfl, by rw [hU], by rw [hU]; exact hPc, va_K.moved hW.alike hK, hDc.weaken (fun _ _ _ _ => trivial)⟩⟩ rfl rfl hl.1 rfl (lv_room (Nat.le_of_ble_eq_true rfl)) d_PS_drop_8 ⟨Nat.le_of_ble_eq_true rfl, Nat.le_of_ble_eq_true rfl⟩) hS (fun q _ h => hFc q h) hFc (fun r9 u t H1 locs ht hvm hw hB hz1 hk1 hS => ?_)
    obtain ⟨hP1, hK1, hD1⟩ := hB
    rw [ht] at hP1
    obtain ⟨hP, hD⟩ := va_join (wr := [(h, .inr (0, [ps_tape, .ref rp, ps_sha, ps_stock, ps_intake, ps_view, ps_text, ps_maker, ps_recording, ps_tapeLength, ps_lastFault])), (rp, .inl (cR, 8, .inr (.inr (.inr (.inr rf)))))]) (w1 := [(rr, .inr (7, [.ref mb, rr_digest, rr_size, rr_version, rr_digestVersion])), (mb, .inl (cL, 8, .inr (.inl mw)))]) hP hD [0, 1] [2, 3] rfl rfl (by decide) (by decide) hk1 hFc hP1 hD1
    generalize H1 = H at hP hS ⊢
    have hP : va_P (dC, dI) classes [(h, .inr (0, [ps_tape, .ref rp, ps_sha, ps_stock, ps_intake, ps_view, ps_text, ps_maker, ps_recording, ps_tapeLength, ps_lastFault])), (rp, .inl (cR, 8, .inr (.inr (.inr (.inr rf))))), (rr, .inr (7, [.ref mb, rr_digest, rr_size, rr_version, rr_digestVersion])), (mb, .inl (cL, 8, .inr (.inl mw)))] H := hP
    have hD : va_D A [(h, .inr (0, [ps_tape, .ref rp, ps_sha, ps_stock, ps_intake, ps_view, ps_text, ps_maker, ps_recording, ps_tapeLength, ps_lastFault])), (rp, .inl (cR, 8, .inr (.inr (.inr (.inr rf))))), (rr, .inr (7, [.ref mb, rr_digest, rr_size, rr_version, rr_digestVersion])), (mb, .inl (cL, 8, .inr (.inl mw)))] := hD
    have hr9 : r9 = 0 := by rcases hw with ⟨-, h9⟩ | ⟨h9, -⟩; exact absurd h9 (re_no _ hz); exact h9
    subst hr9
    refine lv_if_ne (tgt := 22) hx hb d_PS_drop_11 (by decide) (fun c_11 => absurd c_11 (by decide)) (fun _ => ?_)
    refine xc_thrownew (A := A) (own := "PatchStore") (C := "java/util/NoSuchElementException") (names := ["java/lang/RuntimeException", "java/lang/Exception"]) (i1 := 174) (i2 := 176) hx hb hml hl.1 hown hlocks hno htr (by decide +kernel) (by decide +kernel) (tw_PS_174 hts hN) (tr_PS_174) (ti_PS_174) (hTh.1.kept (fun a h1 h2 => hS.2.1 a h1 h2)) d_PS_drop_14 d_PS_drop_17 d_PS_drop_18 d_PS_drop_21 (Nat.le_of_ble_eq_true rfl) (Nat.le_of_ble_eq_true rfl) (Nat.le_of_ble_eq_true rfl) (Nat.le_of_ble_eq_true rfl) (fun x9 t9 H9 e1 e2 e3 hW9 hex => ⟨Or.inr ⟨x9, "java/util/NoSuchElementException", (), rfl, Or.inr ⟨⟨n0, hn0, en0⟩, rfl⟩, hex, trivial⟩, (by rw [e1]; exact Nat.le_trans hS.1 e2), fun q h1 h2 => by rw [e1]; exact (e3 q (Nat.lt_of_lt_of_le h1 hS.1)).trans (hS.2.1 q h1 h2)⟩) hS.2.2
  · obtain ⟨hbad, rfl⟩ := hw
    refine xc_TW.widen (k := 2) (n := 12) (Nat.le_of_ble_eq_true rfl) (Nat.le_of_ble_eq_true rfl) ?_
    exact xc_pass (u := ()) hlocks hno ht hvm hex (Or.inl ⟨hbad, rfl⟩) (fun _ _ _ => trivial) hS
set_option maxHeartbeats 4000000 in
set_option maxRecDepth 100000 in
/-- countManyNamed, no file -/
theorem m_Vw_many0 (l : Launch) (dC : Nat → ClassId) (dI : Nat → Nat → Nat) (cI cB cL cZ cR : ClassId) (h : Nat) (vw_files vw_namingsOf vw_namings vw_namingTotal vw_stock vw_changes vw_loaded vw_version vw_over vw_round vw_heads vw_nexts vw_sharing : Value) (sz : Nat) : Met l y_Vw_countManyNamed ws_Vw_countManyNamed ({ frames := 0, cells := 0, slots := 0, locals := 0 }) (xw_Pc dC dI [(cI, .int), (cB, .byte), (cL, .long), (cZ, .boolean), (cR, .object "PatchStore$Repository")] [.ref h] [(h, .inr (11, [vw_files, vw_namingsOf, vw_namings, .int 0, vw_namingTotal, vw_stock, vw_changes, vw_loaded, vw_version, vw_over, vw_round, vw_heads, vw_nexts, vw_sharing]))] sz) (va_Qi (fun (r : Int32) (_ : Unit) => r = 0) (fun _ t => xw_B dC dI [(cI, .int), (cB, .byte), (cL, .long), (cZ, .boolean), (cR, .object "PatchStore$Repository")] (va_A [(h, .inr (11, [vw_files, vw_namingsOf, vw_namings, .int 0, vw_namingTotal, vw_stock, vw_changes, vw_loaded, vw_version, vw_over, vw_round, vw_heads, vw_nexts, vw_sharing]))] sz) [(h, .inr (11, [vw_files, vw_namingsOf, vw_namings, .int 0, vw_namingTotal, vw_stock, vw_changes, vw_loaded, vw_version, vw_over, vw_round, vw_heads, vw_nexts, vw_sharing]))] t) (va_A [(h, .inr (11, [vw_files, vw_namingsOf, vw_namings, .int 0, vw_namingTotal, vw_stock, vw_changes, vw_loaded, vw_version, vw_over, vw_round, vw_heads, vw_nexts, vw_sharing]))] sz)) 0 0 (va_A [(h, .inr (11, [vw_files, vw_namingsOf, vw_namings, .int 0, vw_namingTotal, vw_stock, vw_changes, vw_loaded, vw_version, vw_over, vw_round, vw_heads, vw_nexts, vw_sharing]))] sz) := by
  refine Met.ofW (cc := prog_12_method_7_code) (maxL := 3) (ret := (Option.some Jvm.ClassFile.FieldType.int)) (by decide) rfl ?_
  intro p e s m args below meth c s₁ B hml hv
  obtain ⟨rfl, hsz, hP, hK, hD0⟩ := hv
  have hx := B.exec
  have hb := B.bytes
  have hr := B.returns
  have hts0 := atoms_spec (ws := ws_Vw_countManyNamed) B.pre
  have hts : ∀ w ∈ xg_1, w.before _ s = true := fun w h => hts0 w (List.mem_cons_of_mem _ h)
  have hown : s.vm.findClass "PatchStore$View" = some m.cls := findClass_of_methodNamed B.named
  have hlocks := B.notSynchronized
  subst hsz
  have hD := hD0.self (sz := s.heap.size)
  generalize hAe : va_A [(h, .inr (11, [vw_files, vw_namingsOf, vw_namings, .int 0, vw_namingTotal, vw_stock, vw_changes, vw_loaded, vw_version, vw_over, vw_round, vw_heads, vw_nexts, vw_sharing]))] s.heap.size = A at hD ⊢
  have hA : ∀ q : Nat, s.heap.size ≤ q → A q := fun q h => by rw [← hAe]; exact Or.inr h
  have hS : va_S A s.heap s.heap [] := va_S.rf
  have hl := lv_entry ([.ref h]) (n := 3) (Nat.le_of_ble_eq_true rfl)
  rw [lg_entry_eq]
  generalize (lg_sl ([.ref h]) ++ List.replicate (3 - (lg_sl ([.ref h])).length) Slot.unset).toArray = ls at hl ⊢
  have hl : lv_has ls 3 [(0, .ref h)] := hl
  refine lv_iconst (v := 0) hx hb d_Vw_countManyNamed_0 (by decide) ?_
  refine lv_istore_n (lv' := [(1, .int 0), (0, .ref h)]) hx hb d_Vw_countManyNamed_1 rfl hl (by decide) rfl (fun ls hl => ?_)
  refine lv_iconst (v := 0) hx hb d_Vw_countManyNamed_2 (by decide) ?_
  refine lv_istore_n (lv' := [(2, .int 0), (1, .int 0), (0, .ref h)]) hx hb d_Vw_countManyNamed_3 rfl hl (by decide) rfl (fun ls hl => ?_)
  refine lv_iload_n hx hb d_Vw_countManyNamed_4 rfl (lv_at hl 0 rfl) ?_
  refine lv_aload_n hx hb d_Vw_countManyNamed_5 rfl (lv_at hl 2 rfl) ?_
  refine va_get (D := (dC, dI)) (ci := 11) (v := .int 0) (C := R_Vw) (T := F_Vw) (N := 14) hx hb hts i_Vw hown hK hP 0 rfl rfl 3 (by decide) (hts _ gw_326) (fun _ h9 => h9) rfl d_Vw_countManyNamed_6 ?_
  refine lv_icmp_ge (tgt := 36) hx hb d_Vw_countManyNamed_9 (by decide) (fun _ => ?_) (fun c_9 => absurd (by decide) c_9)
  refine lv_iload_n hx hb d_Vw_countManyNamed_36 rfl (lv_at hl 1 rfl) ?_
  exact W.iret (v := 0) hx hb hr (fun t ht hW => ⟨⟨_, (), rfl, rfl, by rw [ht]; exact hP, va_K.moved hW.alike hK, hD⟩, hS.F ht⟩) hS.2.2 d_Vw_countManyNamed_37
set_option maxHeartbeats 4000000 in
set_option maxRecDepth 100000 in
/-- countSharing, no file -/
theorem m_Vw_sharing0 (l : Launch) (dC : Nat → ClassId) (dI : Nat → Nat → Nat) (cI cB cL cZ cR : ClassId) (h hd sg : Nat) (vw_files vw_namingsOf vw_namings vw_stock vw_changes vw_loaded vw_version vw_over vw_round vw_nexts : Value) (f0 f1 : Nat → Int32) (sz : Nat) : Met l y_Vw_countSharing ws_Vw_countSharing ({ frames := 1, cells := 0, slots := 0, locals := 60 }) (xw_Pc dC dI [(cI, .int), (cB, .byte), (cL, .long), (cZ, .boolean), (cR, .object "PatchStore$Repository")] [.ref h] [(h, .inr (11, [vw_files, vw_namingsOf, vw_namings, .int 0, .int 0, vw_stock, vw_changes, vw_loaded, vw_version, vw_over, vw_round, .ref hd, vw_nexts, .ref sg])), (hd, .inl (cI, 256, .inl f0)), (sg, .inl (cI, 200, .inl f1))] sz) (va_Qi (fun (r : Int32) (_ : (Nat → Int32) × (Nat → Int32)) => r = 0) (fun u t => xw_B dC dI [(cI, .int), (cB, .byte), (cL, .long), (cZ, .boolean), (cR, .object "PatchStore$Repository")] (va_A [(h, .inr (11, [vw_files, vw_namingsOf, vw_namings, .int 0, .int 0, vw_stock, vw_changes, vw_loaded, vw_version, vw_over, vw_round, .ref hd, vw_nexts, .ref sg])), (hd, .inl (cI, 256, .inl f0)), (sg, .inl (cI, 200, .inl f1))] sz) [(h, .inr (11, [vw_files, vw_namingsOf, vw_namings, .int 0, .int 0, vw_stock, vw_changes, vw_loaded, vw_version, vw_over, vw_round, .ref hd, vw_nexts, .ref sg])), (hd, .inl (cI, 256, .inl u.1)), (sg, .inl (cI, 200, .inl u.2))] t) (va_A [(h, .inr (11, [vw_files, vw_namingsOf, vw_namings, .int 0, .int 0, vw_stock, vw_changes, vw_loaded, vw_version, vw_over, vw_round, .ref hd, vw_nexts, .ref sg])), (hd, .inl (cI, 256, .inl f0)), (sg, .inl (cI, 200, .inl f1))] sz)) 0 0 (va_A [(h, .inr (11, [vw_files, vw_namingsOf, vw_namings, .int 0, .int 0, vw_stock, vw_changes, vw_loaded, vw_version, vw_over, vw_round, .ref hd, vw_nexts, .ref sg])), (hd, .inl (cI, 256, .inl f0)), (sg, .inl (cI, 200, .inl f1))] sz) := by
  refine Met.ofW (cc := prog_12_method_8_code) (maxL := 3) (ret := (Option.some Jvm.ClassFile.FieldType.int)) (by decide) rfl ?_
  intro p e s m args below meth c s₁ B hml hv
  obtain ⟨rfl, hsz, hP, hK, hD0⟩ := hv
  have hx := B.exec
  have hb := B.bytes
  have hr := B.returns
  have hts0 := atoms_spec (ws := ws_Vw_countSharing) B.pre
  have hts : ∀ w ∈ xg_1, w.before _ s = true := fun w h => hts0 w (List.mem_cons_of_mem _ h)
  have hown : s.vm.findClass "PatchStore$View" = some m.cls := findClass_of_methodNamed B.named
  have hlocks := B.notSynchronized
  subst hsz
  have hD := hD0.self (sz := s.heap.size)
  generalize hAe : va_A [(h, .inr (11, [vw_files, vw_namingsOf, vw_namings, .int 0, .int 0, vw_stock, vw_changes, vw_loaded, vw_version, vw_over, vw_round, .ref hd, vw_nexts, .ref sg])), (hd, .inl (cI, 256, .inl f0)), (sg, .inl (cI, 200, .inl f1))] s.heap.size = A at hD ⊢
  have hA : ∀ q : Nat, s.heap.size ≤ q → A q := fun q h => by rw [← hAe]; exact Or.inr h
  have hS : va_S A s.heap s.heap [] := va_S.rf
  have hl := lv_entry ([.ref h]) (n := 3) (Nat.le_of_ble_eq_true rfl)
  rw [lg_entry_eq]
  generalize (lg_sl ([.ref h]) ++ List.replicate (3 - (lg_sl ([.ref h])).length) Slot.unset).toArray = ls at hl ⊢
  have hl : lv_has ls 3 [(0, .ref h)] := hl
  refine lv_aload_n hx hb d_Vw_countSharing_0 rfl (lv_at hl 0 rfl) ?_
  refine va_get (D := (dC, dI)) (ci := 11) (v := .ref hd) (C := R_Vw) (T := F_Vw) (N := 14) hx hb hts i_Vw hown hK hP 0 rfl rfl 11 (by decide) (hts _ gw_336) (fun _ h9 => h9) rfl d_Vw_countSharing_1 ?_
  refine lv_iconst (v := (-1)) hx hb d_Vw_countSharing_4 (by decide) ?_
  have hPc := hP.sub (ws' := [(hd, .inl (cI, 256, .inl f0))]) [1] rfl
  have hDc := hD.sub (ws' := [(hd, .inl (cI, 256, .inl f0))]) [1] (by decide) rfl
  have hFc := va_free (wc := [(hd, .inl (cI, 256, .inl f0))]) hD hS hA [1] rfl
  refine va_callv (va_runS (As := [.ref hd, .int (-1)]) (rest := []) ⟨hx, hb, hml, hown, hts⟩ (m_Ar_fill l dC dI cI cB cL cZ cR hd 256 f0 (-1) s.heap.size (by decide)) ⟨callB_of 2 hts (xg_in gw_736) rfl rfl rfl (hts _ gw_22) (hts _ gw_1006) (by decide +kernel) ⟨Nat.le_of_ble_eq_true rfl, Nat.le_of_ble_eq_true rfl⟩, hts _ gw_735⟩ ⟨xw_blind, fun U hU hW => ⟨rfl, by rw [hU], by rw [hU]; exact hPc, va_K.moved hW.alike hK, hDc.weaken (fun _ _ _ _ => trivial)⟩⟩ rfl rfl hl.1 rfl (lv_room (Nat.le_of_ble_eq_true rfl)) d_Vw_countSharing_5 ⟨Nat.le_of_ble_eq_true rfl, Nat.le_of_ble_eq_true rfl⟩) hS (fun q _ h => hFc q h) hFc (fun fi1 t H1 locs ht hvm hw hB hz1 hk1 hS => ?_)
  obtain ⟨hP1, hK1, hD1⟩ := hB
  rw [ht] at hP1
  obtain ⟨hP, hD⟩ := va_join (wr := [(h, .inr (11, [vw_files, vw_namingsOf, vw_namings, .int 0, .int 0, vw_stock, vw_changes, vw_loaded, vw_version, vw_over, vw_round, .ref hd, vw_nexts, .ref sg])), (sg, .inl (cI, 200, .inl f1))]) (w1 := [(hd, .inl (cI, 256, .inl fi1))]) hP hD [1] [0, 2] rfl rfl (by decide) (by decide) hk1 hFc hP1 hD1
  generalize H1 = H at hP hS ⊢
  have hP : va_P (dC, dI) classes [(h, .inr (11, [vw_files, vw_namingsOf, vw_namings, .int 0, .int 0, vw_stock, vw_changes, vw_loaded, vw_version, vw_over, vw_round, .ref hd, vw_nexts, .ref sg])), (sg, .inl (cI, 200, .inl f1)), (hd, .inl (cI, 256, .inl fi1))] H := hP
  have hD : va_D A [(h, .inr (11, [vw_files, vw_namingsOf, vw_namings, .int 0, .int 0, vw_stock, vw_changes, vw_loaded, vw_version, vw_over, vw_round, .ref hd, vw_nexts, .ref sg])), (sg, .inl (cI, 200, .inl f1)), (hd, .inl (cI, 256, .inl fi1))] := hD
  refine lv_aload_n hx hb d_Vw_countSharing_8 rfl (lv_at hl 0 rfl) ?_
  refine va_get (D := (dC, dI)) (ci := 11) (v := .ref sg) (C := R_Vw) (T := F_Vw) (N := 14) hx hb hts i_Vw hown hK hP 0 rfl rfl 13 (by decide) (hts _ gw_338) (fun _ h9 => h9) rfl d_Vw_countSharing_9 ?_
  refine lv_iconst (v := 0) hx hb d_Vw_countSharing_12 (by decide) ?_
  have hPc := hP.sub (ws' := [(sg, .inl (cI, 200, .inl f1))]) [1] rfl
  have hDc := hD.sub (ws' := [(sg, .inl (cI, 200, .inl f1))]) [1] (by decide) rfl
  have hFc := va_free (wc := [(sg, .inl (cI, 200, .inl f1))]) hD hS hA [1] rfl
  refine va_callv (va_runS (As := [.ref sg, .int 0]) (rest := []) ⟨hx, hb, hml, hown, hts⟩ (m_Ar_fill l dC dI cI cB cL cZ cR sg 200 f1 0 H.size (by decide)) ⟨callB_of 2 hts (xg_in gw_736) rfl rfl rfl (hts _ gw_22) (hts _ gw_1006) (by decide +kernel) ⟨Nat.le_of_ble_eq_true rfl, Nat.le_of_ble_eq_true rfl⟩, hts _ gw_735⟩ ⟨xw_blind, fun U hU hW => ⟨rfl, by rw [hU], by rw [hU]; exact hPc, va_K.moved hW.alike hK, hDc.weaken (fun _ _ _ _ => trivial)⟩⟩ rfl rfl hl.1 rfl (lv_room (Nat.le_of_ble_eq_true rfl)) d_Vw_countSharing_13 ⟨Nat.le_of_ble_eq_true rfl, Nat.le_of_ble_eq_true rfl⟩) hS (fun q _ h => hFc q h) hFc (fun fi2 t H1 locs ht hvm hw hB hz1 hk1 hS => ?_)
  obtain ⟨hP1, hK1, hD1⟩ := hB
  rw [ht] at hP1
  obtain ⟨hP, hD⟩ := va_join (wr := [(h, .inr (11, [vw_files, vw_namingsOf, vw_namings, .int 0, .int 0, vw_stock, vw_changes, vw_loaded, vw_version, vw_over, vw_round, .ref hd, vw_nexts, .ref sg])), (hd, .inl (cI, 256, .inl fi1))]) (w1 := [(sg, .inl (cI, 200, .inl fi2))]) hP hD [1] [0, 2] rfl rfl (by decide) (by decide) hk1 hFc hP1 hD1
  generalize H1 = H at hP hS ⊢
  have hP : va_P (dC, dI) classes [(h, .inr (11, [vw_files, vw_namingsOf, vw_namings, .int 0, .int 0, vw_stock, vw_changes, vw_loaded, vw_version, vw_over, vw_round, .ref hd, vw_nexts, .ref sg])), (hd, .inl (cI, 256, .inl fi1)), (sg, .inl (cI, 200, .inl fi2))] H := hP
  have hD : va_D A [(h, .inr (11, [vw_files, vw_namingsOf, vw_namings, .int 0, .int 0, vw_stock, vw_changes, vw_loaded, vw_version, vw_over, vw_round, .ref hd, vw_nexts, .ref sg])), (hd, .inl (cI, 256, .inl fi1)), (sg, .inl (cI, 200, .inl fi2))] := hD
  refine lv_iconst (v := 0) hx hb d_Vw_countSharing_16 (by decide) ?_
  refine lv_istore_n (lv' := [(1, .int 0), (0, .ref h)]) hx hb d_Vw_countSharing_17 rfl hl (by decide) rfl (fun ls hl => ?_)
  refine lv_iload_n hx hb d_Vw_countSharing_18 rfl (lv_at hl 0 rfl) ?_
  refine lv_aload_n hx hb d_Vw_countSharing_19 rfl (lv_at hl 1 rfl) ?_
  refine va_get (D := (dC, dI)) (ci := 11) (v := .int 0) (C := R_Vw) (T := F_Vw) (N := 14) hx hb hts i_Vw hown hK hP 0 rfl rfl 4 (by decide) (hts _ gw_328) (fun _ h9 => h9) rfl d_Vw_countSharing_20 ?_
  refine lv_icmp_ge (tgt := 37) hx hb d_Vw_countSharing_23 (by decide) (fun _ => ?_) (fun c_23 => absurd (by decide) c_23)
  refine lv_iconst (v := 0) hx hb d_Vw_countSharing_37 (by decide) ?_
  refine lv_istore_n (lv' := [(1, .int 0), (0, .ref h)]) hx hb d_Vw_countSharing_38 rfl hl (by decide) rfl (fun ls hl => ?_)
  refine lv_iconst (v := 0) hx hb d_Vw_countSharing_39 (by decide) ?_
  refine lv_istore_n (lv' := [(2, .int 0), (1, .int 0), (0, .ref h)]) hx hb d_Vw_countSharing_40 rfl hl (by decide) rfl (fun ls hl => ?_)
  refine lv_iload_n hx hb d_Vw_countSharing_41 rfl (lv_at hl 0 rfl) ?_
  refine lv_aload_n hx hb d_Vw_countSharing_42 rfl (lv_at hl 2 rfl) ?_
  refine va_get (D := (dC, dI)) (ci := 11) (v := .int 0) (C := R_Vw) (T := F_Vw) (N := 14) hx hb hts i_Vw hown hK hP 0 rfl rfl 3 (by decide) (hts _ gw_326) (fun _ h9 => h9) rfl d_Vw_countSharing_43 ?_
  refine lv_icmp_ge (tgt := 69) hx hb d_Vw_countSharing_46 (by decide) (fun _ => ?_) (fun c_46 => absurd (by decide) c_46)
  refine lv_iload_n hx hb d_Vw_countSharing_69 rfl (lv_at hl 1 rfl) ?_
  exact W.iret (v := 0) hx hb hr (fun t ht hW => ⟨⟨_, (fi1, fi2), rfl, rfl, by rw [ht]; exact hP, va_K.moved hW.alike hK, hD⟩, hS.F ht⟩) hS.2.2 d_Vw_countSharing_70
set_option maxHeartbeats 4000000 in
set_option maxRecDepth 100000 in
/-- about on a fresh object -/
theorem m_PS_about0 (l : Launch) (dC : Nat → ClassId) (dI : Nat → Nat → Nat) (cI cB cL cZ cR : ClassId) (hlt : xl_T l) (h rp vw no rr sk hd sg : Nat) (ps_tape ps_sha ps_stock ps_intake ps_text ps_maker ps_recording ps_tapeLength ps_lastFault vw_files vw_namings vw_changes vw_over vw_nexts rr_members rr_digest rr_digestVersion sk_bytes sk_from sk_firstDependency sk_firstChange sk_dependencies sk_hashes sk_byHash sk_leansOn sk_leantBy sk_changes sk_lines : Value) (ver : Int32) (f0 f1 f2 : Nat → Int32) (g : Nat → Nat) (rf : Nat → Option Nat) (p0 p1 : Int32) (sz : Nat) (hrf : ∀ k, k < 8 → rf k = some (g k)) (hrr_rr : ∀ n, n < 8 → p0 = nI n → g n = rr) : xc_Met l y_PS_about ws_PS_about ({ frames := 14, cells := 2, slots := 12, locals := 400 }) (xw_Px dC dI [(cI, .int), (cB, .byte), (cL, .long), (cZ, .boolean), (cR, .object "PatchStore$Repository")] [.ref h, .int p0, .int p1] [(h, .inr (0, [ps_tape, .ref rp, ps_sha, ps_stock, ps_intake, .ref vw, ps_text, ps_maker, ps_recording, ps_tapeLength, ps_lastFault])), (rp, .inl (cR, 8, .inr (.inr (.inr (.inr rf))))), (vw, .inr (11, [vw_files, .ref no, vw_namings, .int 0, .int 0, .ref sk, vw_changes, .null, .int 0, vw_over, .int 0, .ref hd, vw_nexts, .ref sg])), (no, .inl (cI, 200, .inl f0)), (rr, .inr (7, [rr_members, rr_digest, .int 0, .int ver, rr_digestVersion])), (sk, .inr (9, [sk_bytes, sk_from, sk_firstDependency, sk_firstChange, sk_dependencies, sk_hashes, sk_byHash, sk_leansOn, sk_leantBy, sk_changes, sk_lines, .int 0])), (hd, .inl (cI, 256, .inl f1)), (sg, .inl (cI, 200, .inl f2))] sz) (xc_Q (S := Unit) (fun v (_ : Unit) => (∃ n : Nat, n < 8 ∧ p0 = nI n) ∧ v = some (.int 0) ∧ ∃ j : Nat, j < 4 ∧ p1 = nI j) (fun C (_ : Unit) => ((¬ ∃ n : Nat, n < 8 ∧ p0 = nI n) ∧ C = "java/util/NoSuchElementException") ∨ ((∃ n : Nat, n < 8 ∧ p0 = nI n) ∧ C = "java/lang/IllegalArgumentException" ∧ ¬ ∃ j : Nat, j < 4 ∧ p1 = nI j)) (fun _ _ => True) (va_A [(h, .inr (0, [ps_tape, .ref rp, ps_sha, ps_stock, ps_intake, .ref vw, ps_text, ps_maker, ps_recording, ps_tapeLength, ps_lastFault])), (rp, .inl (cR, 8, .inr (.inr (.inr (.inr rf))))), (vw, .inr (11, [vw_files, .ref no, vw_namings, .int 0, .int 0, .ref sk, vw_changes, .null, .int 0, vw_over, .int 0, .ref hd, vw_nexts, .ref sg])), (no, .inl (cI, 200, .inl f0)), (rr, .inr (7, [rr_members, rr_digest, .int 0, .int ver, rr_digestVersion])), (sk, .inr (9, [sk_bytes, sk_from, sk_firstDependency, sk_firstChange, sk_dependencies, sk_hashes, sk_byHash, sk_leansOn, sk_leantBy, sk_changes, sk_lines, .int 0])), (hd, .inl (cI, 256, .inl f1)), (sg, .inl (cI, 200, .inl f2))] sz)) 2 12 (va_A [(h, .inr (0, [ps_tape, .ref rp, ps_sha, ps_stock, ps_intake, .ref vw, ps_text, ps_maker, ps_recording, ps_tapeLength, ps_lastFault])), (rp, .inl (cR, 8, .inr (.inr (.inr (.inr rf))))), (vw, .inr (11, [vw_files, .ref no, vw_namings, .int 0, .int 0, .ref sk, vw_changes, .null, .int 0, vw_over, .int 0, .ref hd, vw_nexts, .ref sg])), (no, .inl (cI, 200, .inl f0)), (rr, .inr (7, [rr_members, rr_digest, .int 0, .int ver, rr_digestVersion])), (sk, .inr (9, [sk_bytes, sk_from, sk_firstDependency, sk_firstChange, sk_dependencies, sk_hashes, sk_byHash, sk_leansOn, sk_leantBy, sk_changes, sk_lines, .int 0])), (hd, .inl (cI, 256, .inl f1)), (sg, .inl (cI, 200, .inl f2))] sz) := by
  refine xc_ofW (cc := prog_1_method_15_code) (maxL := 4) (ret := (Option.some Jvm.ClassFile.FieldType.int)) (by decide) rfl ?_
  intro p e s m args below meth c s₁ B hml hno hv
  obtain ⟨rfl, hsz, hP, hK, hD0, hN, hTh⟩ := hv
  have htr : e.platform.stackTraces = false := hlt e B.admits
  have hx := B.exec
  have hb := B.bytes
  have hr := B.returns
  have hts0 := atoms_spec (ws := ws_PS_about) B.pre
  have hts : ∀ w ∈ xg_1, w.before _ s = true := fun w h => hts0 w (List.mem_cons_of_mem _ h)
  have hown : s.vm.findClass "PatchStore" = some m.cls := findClass_of_methodNamed B.named
  have hlocks := B.notSynchronized
  subst hsz
  have hD := hD0.self (sz := s.heap.size)
  generalize hAe : va_A [(h, .inr (0, [ps_tape, .ref rp, ps_sha, ps_stock, ps_intake, .ref vw, ps_text, ps_maker, ps_recording, ps_tapeLength, ps_lastFault])), (rp, .inl (cR, 8, .inr (.inr (.inr (.inr rf))))), (vw, .inr (11, [vw_files, .ref no, vw_namings, .int 0, .int 0, .ref sk, vw_changes, .null, .int 0, vw_over, .int 0, .ref hd, vw_nexts, .ref sg])), (no, .inl (cI, 200, .inl f0)), (rr, .inr (7, [rr_members, rr_digest, .int 0, .int ver, rr_digestVersion])), (sk, .inr (9, [sk_bytes, sk_from, sk_firstDependency, sk_firstChange, sk_dependencies, sk_hashes, sk_byHash, sk_leansOn, sk_leantBy, sk_changes, sk_lines, .int 0])), (hd, .inl (cI, 256, .inl f1)), (sg, .inl (cI, 200, .inl f2))] s.heap.size = A at hD hTh ⊢
  have hA : ∀ q : Nat, s.heap.size ≤ q → A q := fun q h => by rw [← hAe]; exact Or.inr h
  have hS : va_S A s.heap s.heap [] := va_S.rf
  have hl := lv_entry ([.ref h, .int p0, .int p1]) (n := 4) (Nat.le_of_ble_eq_true rfl)
  rw [lg_entry_eq]
  generalize (lg_sl ([.ref h, .int p0, .int p1]) ++ List.replicate (4 - (lg_sl ([.ref h, .int p0, .int p1])).length) Slot.unset).toArray = ls at hl ⊢
  have hl : lv_has ls 4 [(0, .ref h), (1, .int p0), (2, .int p1)] := hl
  refine lv_aload_n hx hb d_PS_about_0 rfl (lv_at hl 0 rfl) ?_
  refine lv_iload_n hx hb d_PS_about_1 rfl (lv_at hl 1 rfl) ?_
  have hPc := hP.sub (ws' := [(h, .inr (0, [ps_tape, .ref rp, ps_sha, ps_stock, ps_intake, .ref vw, ps_text, ps_maker, ps_recording, ps_tapeLength, ps_lastFault])), (rp, .inl (cR, 8, .inr (.inr (.inr (.inr rf)))))]) [0, 1] rfl
  have hDc := hD.sub (ws' := [(h, .inr (0, [ps_tape, .ref rp, ps_sha, ps_stock, ps_intake, .ref vw, ps_text, ps_maker, ps_recording, ps_tapeLength, ps_lastFault])), (rp, .inl (cR, 8, .inr (.inr (.inr (.inr rf)))))]) [0, 1] (by decide) rfl
  have hFc := va_free (wc := [(h, .inr (0, [ps_tape, .ref rp, ps_sha, ps_stock, ps_intake, .ref vw, ps_text, ps_maker, ps_recording, ps_tapeLength, ps_lastFault])), (rp, .inl (cR, 8, .inr (.inr (.inr (.inr rf)))))]) hD hS hA [0, 1] rfl
  refine xc_call (xc_runV (As := [.int p0]) (rest := []) (C := "PatchStore") ⟨hx, hb, hml, hown, hts⟩ (m_PS_repositoryAt l dC dI cI cB cL cZ cR hlt h rp (ps_tape) (ps_sha) (ps_stock) (ps_intake) (.ref vw) (ps_text) (ps_maker) (ps_recording) (ps_tapeLength) (ps_lastFault) g rf p0 s.heap.size hrf) (xc_bOf 1 hts (xg_in gw_703) (xc_Is.code (hts _ gw_703)) rfl rfl (hts _ gw_1) (by decide +kernel) ⟨Nat.le_of_ble_eq_true rfl, Nat.le_of_ble_eq_true rfl⟩) (hts _ gw_700) (hts _ gw_702) (hts _ (xg_p 2 (q := (⟨"PatchStore", "repositoryAt", "(I)LPatchStore$Repository;"⟩, 11)) (by decide +kernel))) ⟨xw_blindx, va_recv hK hPc (ci := 0) (q0 := 0) rfl rfl, fun U hU hW => ⟨rfl, by rw [hU], by rw [hU]; exact hPc, va_K.moved hW.alike hK, hDc.weaken (fun _ _ _ _ => trivial), xg_N.warm hW hN, by rw [hU]; exact ((hTh.kept (fun a h1 h2 => hS.2.1 a h1 h2)).narrow hFc).moved hW.alike⟩⟩ rfl rfl hl.1 rfl (lv_room (Nat.le_of_ble_eq_true rfl)) d_PS_about_2 ⟨Nat.le_of_ble_eq_true rfl, Nat.le_of_ble_eq_true rfl⟩) hS (fun q _ h => hFc q h) hFc (fun v9 u t H1 locs ht hvm hw hB hz1 hk1 hS => ?_) (fun x9 C9 u t H1 locs ht hvm hw hex hB hz1 hk1 hS => ?_)
  · obtain ⟨n0, hn0, en0, rfl⟩ := hw
    rw [hrr_rr n0 hn0 en0]
    obtain ⟨hP1, hK1, hD1⟩ := hB
    rw [ht] at hP1
    obtain ⟨hP, hD⟩ := va_join (wr := [(vw, .inr (11, [vw_files, .ref no, vw_namings, .int 0, .int 0, .ref sk, vw_changes, .null, .int 0, vw_over, .int 0, .ref hd, vw_nexts, .ref sg])), (no, .inl (cI, 200, .inl f0)), (rr, .inr (7, [rr_members, rr_digest, .int 0, .int ver, rr_digestVersion])), (sk, .inr (9, [sk_bytes, sk_from, sk_firstDependency, sk_firstChange, sk_dependencies, sk_hashes, sk_byHash, sk_leansOn, sk_leantBy, sk_changes, sk_lines, .int 0])), (hd, .inl (cI, 256, .inl f1)), (sg, .inl (cI, 200, .inl f2))]) (w1 := [(h, .inr (0, [ps_tape, .ref rp, ps_sha, ps_stock, ps_intake, .ref vw, ps_text, ps_maker, ps_recording, ps_tapeLength, ps_lastFault])), (rp, .inl (cR, 8, .inr (.inr (.inr (.inr rf)))))]) hP hD [0, 1] [2, 3, 4, 5, 6, 7] rfl rfl (by decide) (by decide) hk1 hFc hP1 hD1
    generalize H1 = H at hP hS ht ⊢
    have hP : va_P (dC, dI) classes [(vw, .inr (11, [vw_files, .ref no, vw_namings, .int 0, .int 0, .ref sk, vw_changes, .null, .int 0, vw_over, .int 0, .ref hd, vw_nexts, .ref sg])), (no, .inl (cI, 200, .inl f0)), (rr, .inr (7, [rr_members, rr_digest, .int 0, .int ver, rr_digestVersion])), (sk, .inr (9, [sk_bytes, sk_from, sk_firstDependency, sk_firstChange, sk_dependencies, sk_hashes, sk_byHash, sk_leansOn, sk_leantBy, sk_changes, sk_lines, .int 0])), (hd, .inl (cI, 256, .inl f1)), (sg, .inl (cI, 200, .inl f2)), (h, .inr (0, [ps_tape, .ref rp, ps_sha, ps_stock, ps_intake, .ref vw, ps_text, ps_maker, ps_recording, ps_tapeLength, ps_lastFault])), (rp, .inl (cR, 8, .inr (.inr (.inr (.inr rf)))))] H := hP
    have hD : va_D A [(vw, .inr (11, [vw_files, .ref no, vw_namings, .int 0, .int 0, .ref sk, vw_changes, .null, .int 0, vw_over, .int 0, .ref hd, vw_nexts, .ref sg])), (no, .inl (cI, 200, .inl f0)), (rr, .inr (7, [rr_members, rr_digest, .int 0, .int ver, rr_digestVersion])), (sk, .inr (9, [sk_bytes, sk_from, sk_firstDependency, sk_firstChange, sk_dependencies, sk_hashes, sk_byHash, sk_leansOn, sk_leantBy, sk_changes, sk_lines, .int 0])), (hd, .inl (cI, 256, .inl f1)), (sg, .inl (cI, 200, .inl f2)), (h, .inr (0, [ps_tape, .ref rp, ps_sha, ps_stock, ps_intake, .ref vw, ps_text, ps_maker, ps_recording, ps_tapeLength, ps_lastFault])), (rp, .inl (cR, 8, .inr (.inr (.inr (.inr rf)))))] := hD
    refine W.eq (g2 := F0 m 5 ls [.ref rr]) rfl ?_
    refine W.widen (k := 1) (n := 6) (Nat.le_of_ble_eq_true rfl) (Nat.le_of_ble_eq_true rfl) ?_
    refine lv_astore_n (lv' := [(3, .ref rr), (0, .ref h), (1, .int p0), (2, .int p1)]) hx hb d_PS_about_5 rfl hl (by decide) rfl (fun ls hl => ?_)
    refine lv_aload_n hx hb d_PS_about_6 rfl (lv_at hl 1 rfl) ?_
    refine va_get (D := (dC, dI)) (ci := 0) (v := .ref vw) (C := R_PS) (T := F_PS) (N := 11) hx hb hts i_PS hown hK hP 6 rfl rfl 5 (by decide) (hts _ gw_553) (fun _ h9 => h9) rfl d_PS_about_7 ?_
    refine lv_aload_n hx hb d_PS_about_10 rfl (lv_at hl 0 rfl) ?_
    have hPc := hP.sub (ws' := [(vw, .inr (11, [vw_files, .ref no, vw_namings, .int 0, .int 0, .ref sk, vw_changes, .null, .int 0, vw_over, .int 0, .ref hd, vw_nexts, .ref sg])), (no, .inl (cI, 200, .inl f0)), (rr, .inr (7, [rr_members, rr_digest, .int 0, .int ver, rr_digestVersion])), (sk, .inr (9, [sk_bytes, sk_from, sk_firstDependency, sk_firstChange, sk_dependencies, sk_hashes, sk_byHash, sk_leansOn, sk_leantBy, sk_changes, sk_lines, .int 0]))]) [0, 1, 2, 3] rfl
    have hDc := hD.sub (ws' := [(vw, .inr (11, [vw_files, .ref no, vw_namings, .int 0, .int 0, .ref sk, vw_changes, .null, .int 0, vw_over, .int 0, .ref hd, vw_nexts, .ref sg])), (no, .inl (cI, 200, .inl f0)), (rr, .inr (7, [rr_members, rr_digest, .int 0, .int ver, rr_digestVersion])), (sk, .inr (9, [sk_bytes, sk_from, sk_firstDependency, sk_firstChange, sk_dependencies, sk_hashes, sk_byHash, sk_leansOn, sk_leantBy, sk_changes, sk_lines, .int 0]))]) [0, 1, 2, 3] (by decide) rfl
    have hFc := va_free (wc := [(vw, .inr (11, [vw_files, .ref no, vw_namings, .int 0, .int 0, .ref sk, vw_changes, .null, .int 0, vw_over, .int 0, .ref hd, vw_nexts, .ref sg])), (no, .inl (cI, 200, .inl f0)), (rr, .inr (7, [rr_members, rr_digest, .int 0, .int ver, rr_digestVersion])), (sk, .inr (9, [sk_bytes, sk_from, sk_firstDependency, sk_firstChange, sk_dependencies, sk_hashes, sk_byHash, sk_leansOn, sk_leantBy, sk_changes, sk_lines, .int 0]))]) hD hS hA [0, 1, 2, 3] rfl
    refine va_callv (va_runV (As := [.ref rr]) (rest := []) ⟨hx, hb, hml, hown, hts⟩ (m_Vw_load0 l dC dI cI cB cL cZ cR vw no rr sk (vw_files) (vw_namings) (vw_changes) (vw_over) (.ref hd) (vw_nexts) (.ref sg) (rr_members) (rr_digest) (.int 0) (rr_digestVersion) (sk_bytes) (sk_from) (sk_firstDependency) (sk_firstChange) (sk_dependencies) (sk_hashes) (sk_byHash) (sk_leansOn) (sk_leantBy) (sk_changes) (sk_lines) ver f0 H.size ) (cwV 1 hts (xg_V gw_995 gw_996 gw_997 gw_8 gw_998) rfl rfl rfl (by decide +kernel) ⟨Nat.le_of_ble_eq_true rfl, Nat.le_of_ble_eq_true rfl⟩) ⟨xw_blind, va_recv hK hPc (ci := 11) (q0 := 0) rfl rfl, fun U hU hW => ⟨rfl, by rw [hU], by rw [hU]; exact hPc, va_K.moved hW.alike hK, hDc.weaken (fun _ _ _ _ => trivial)⟩⟩ rfl rfl hl.1 rfl (lv_room (Nat.le_of_ble_eq_true rfl)) d_PS_about_11 ⟨Nat.le_of_ble_eq_true rfl, Nat.le_of_ble_eq_true rfl⟩) hS (fun q _ h => hFc q h) hFc (fun no1 t H1 locs ht hvm hw hB hz1 hk1 hS => ?_)
    obtain ⟨hP1, hK1, hD1⟩ := hB
    rw [ht] at hP1
    obtain ⟨hP, hD⟩ := va_join (wr := [(hd, .inl (cI, 256, .inl f1)), (sg, .inl (cI, 200, .inl f2)), (h, .inr (0, [ps_tape, .ref rp, ps_sha, ps_stock, ps_intake, .ref vw, ps_text, ps_maker, ps_recording, ps_tapeLength, ps_lastFault])), (rp, .inl (cR, 8, .inr (.inr (.inr (.inr rf)))))]) (w1 := [(vw, .inr (11, [vw_files, .ref no, vw_namings, .int 0, .int 0, .ref sk, vw_changes, .ref rr, .int ver, vw_over, .int 1, .ref hd, vw_nexts, .ref sg])), (no, .inl (cI, 200, .inl no1)), (rr, .inr (7, [rr_members, rr_digest, .int 0, .int ver, rr_digestVersion])), (sk, .inr (9, [sk_bytes, sk_from, sk_firstDependency, sk_firstChange, sk_dependencies, sk_hashes, sk_byHash, sk_leansOn, sk_leantBy, sk_changes, sk_lines, .int 0]))]) hP hD [0, 1, 2, 3] [4, 5, 6, 7] rfl rfl (by decide) (by decide) hk1 hFc hP1 hD1
    generalize H1 = H at hP hS ⊢
    have hP : va_P (dC, dI) classes [(hd, .inl (cI, 256, .inl f1)), (sg, .inl (cI, 200, .inl f2)), (h, .inr (0, [ps_tape, .ref rp, ps_sha, ps_stock, ps_intake, .ref vw, ps_text, ps_maker, ps_recording, ps_tapeLength, ps_lastFault])), (rp, .inl (cR, 8, .inr (.inr (.inr (.inr rf))))), (vw, .inr (11, [vw_files, .ref no, vw_namings, .int 0, .int 0, .ref sk, vw_changes, .ref rr, .int ver, vw_over, .int 1, .ref hd, vw_nexts, .ref sg])), (no, .inl (cI, 200, .inl no1)), (rr, .inr (7, [rr_members, rr_digest, .int 0, .int ver, rr_digestVersion])), (sk, .inr (9, [sk_bytes, sk_from, sk_firstDependency, sk_firstChange, sk_dependencies, sk_hashes, sk_byHash, sk_leansOn, sk_leantBy, sk_changes, sk_lines, .int 0]))] H := hP
    have hD : va_D A [(hd, .inl (cI, 256, .inl f1)), (sg, .inl (cI, 200, .inl f2)), (h, .inr (0, [ps_tape, .ref rp, ps_sha, ps_stock, ps_intake, .ref vw, ps_text, ps_maker, ps_recording, ps_tapeLength, ps_lastFault])), (rp, .inl (cR, 8, .inr (.inr (.inr (.inr rf))))), (vw, .inr (11, [vw_files, .ref no, vw_namings, .int 0, .int 0, .ref sk, vw_changes, .ref rr, .int ver, vw_over, .int 1, .ref hd, vw_nexts, .ref sg])), (no, .inl (cI, 200, .inl no1)), (rr, .inr (7, [rr_members, rr_digest, .int 0, .int ver, rr_digestVersion])), (sk, .inr (9, [sk_bytes, sk_from, sk_firstDependency, sk_firstChange, sk_dependencies, sk_hashes, sk_byHash, sk_leansOn, sk_leantBy, sk_changes, sk_lines, .int 0]))] := hD
    refine lv_iload_n hx hb d_PS_about_14 rfl (lv_at hl 3 rfl) ?_
    rcases pk_ix p1 (n := 4) (by decide) with hs | hs | ⟨j_15, hj, rfl⟩
    · refine lv_tableOut (tgt := 73) hx hb d_PS_about_15 (Or.inl (by have := Int32.lt_iff_toInt_lt.mp hs; simpa using this)) (by decide) ?_
      refine xc_thrownew (A := A) (own := "PatchStore") (C := "java/lang/IllegalArgumentException") (names := ["java/lang/RuntimeException", "java/lang/Exception"]) (i1 := 87) (i2 := 89) hx hb hml hl.1 hown hlocks hno htr (by decide +kernel) (by decide +kernel) (tw_PS_87 hts hN) (tr_PS_87) (ti_PS_87) (hTh.1.kept (fun a h1 h2 => hS.2.1 a h1 h2)) d_PS_about_73 d_PS_about_76 d_PS_about_77 d_PS_about_80 (Nat.le_of_ble_eq_true rfl) (Nat.le_of_ble_eq_true rfl) (Nat.le_of_ble_eq_true rfl) (Nat.le_of_ble_eq_true rfl) (fun x9 t9 H9 e1 e2 e3 hW9 hex => ⟨Or.inr ⟨x9, "java/lang/IllegalArgumentException", (), rfl, Or.inr ⟨⟨n0, hn0, en0⟩, rfl, by rintro ⟨j, hj, rfl⟩; exact nI_pos (by omega) hs⟩, hex, trivial⟩, (by rw [e1]; exact Nat.le_trans hS.1 e2), fun q h1 h2 => by rw [e1]; exact (e3 q (Nat.lt_of_lt_of_le h1 hS.1)).trans (hS.2.1 q h1 h2)⟩) hS.2.2
    · refine lv_tableOut (tgt := 73) hx hb d_PS_about_15 (Or.inr (by have h9 := Int32.le_iff_toInt_le.mp hs; rw [nI_toInt (by decide)] at h9; omega)) (by decide) ?_
      refine xc_thrownew (A := A) (own := "PatchStore") (C := "java/lang/IllegalArgumentException") (names := ["java/lang/RuntimeException", "java/lang/Exception"]) (i1 := 87) (i2 := 89) hx hb hml hl.1 hown hlocks hno htr (by decide +kernel) (by decide +kernel) (tw_PS_87 hts hN) (tr_PS_87) (ti_PS_87) (hTh.1.kept (fun a h1 h2 => hS.2.1 a h1 h2)) d_PS_about_73 d_PS_about_76 d_PS_about_77 d_PS_about_80 (Nat.le_of_ble_eq_true rfl) (Nat.le_of_ble_eq_true rfl) (Nat.le_of_ble_eq_true rfl) (Nat.le_of_ble_eq_true rfl) (fun x9 t9 H9 e1 e2 e3 hW9 hex => ⟨Or.inr ⟨x9, "java/lang/IllegalArgumentException", (), rfl, Or.inr ⟨⟨n0, hn0, en0⟩, rfl, by rintro ⟨j, hj, rfl⟩; exact nI_ge (b := 4) hj (by decide) hs⟩, hex, trivial⟩, (by rw [e1]; exact Nat.le_trans hS.1 e2), fun q h1 h2 => by rw [e1]; exact (e3 q (Nat.lt_of_lt_of_le h1 hS.1)).trans (hS.2.1 q h1 h2)⟩) hS.2.2
    · rcases (show j_15 = 0 ∨ j_15 = 1 ∨ j_15 = 2 ∨ j_15 = 3 by omega) with rfl | rfl | rfl | rfl
      · refine lv_tableIn (tgt := 44) (off := 29) hx hb d_PS_about_15 (by decide) (by decide) (by decide) (by decide) ?_
        refine lv_aload_n hx hb d_PS_about_44 rfl (lv_at hl 0 rfl) ?_
        refine va_get (D := (dC, dI)) (ci := 7) (v := .int 0) (C := R_Re) (T := F_Re) (N := 5) hx hb hts i_Re hown hK hP 6 rfl rfl 2 (by decide) (hts _ gw_532) (fun _ h9 => h9) rfl d_PS_about_45 ?_
        refine W.widen (k := 2) (n := 12) (Nat.le_of_ble_eq_true rfl) (Nat.le_of_ble_eq_true rfl) ?_
        exact xc_ret (W.iret (v := 0) hx hb hr (fun t ht hW => ⟨Or.inl ⟨_, (), rfl, ⟨⟨n0, hn0, en0⟩, rfl, 0, by decide, rfl⟩, trivial⟩, hS.F ht⟩) hS.2.2 d_PS_about_48)
      · refine lv_tableIn (tgt := 49) (off := 34) hx hb d_PS_about_15 (by decide) (by decide) (by decide) (by decide) ?_
        refine lv_aload_n hx hb d_PS_about_49 rfl (lv_at hl 1 rfl) ?_
        refine va_get (D := (dC, dI)) (ci := 0) (v := .ref vw) (C := R_PS) (T := F_PS) (N := 11) hx hb hts i_PS hown hK hP 2 rfl rfl 5 (by decide) (hts _ gw_553) (fun _ h9 => h9) rfl d_PS_about_50 ?_
        refine va_get (D := (dC, dI)) (ci := 11) (v := .int 0) (C := R_Vw) (T := F_Vw) (N := 14) hx hb hts i_Vw hown hK hP 4 rfl rfl 3 (by decide) (hts _ gw_327) (fun _ h9 => h9) rfl d_PS_about_53 ?_
        refine W.widen (k := 2) (n := 12) (Nat.le_of_ble_eq_true rfl) (Nat.le_of_ble_eq_true rfl) ?_
        exact xc_ret (W.iret (v := 0) hx hb hr (fun t ht hW => ⟨Or.inl ⟨_, (), rfl, ⟨⟨n0, hn0, en0⟩, rfl, 1, by decide, rfl⟩, trivial⟩, hS.F ht⟩) hS.2.2 d_PS_about_56)
      · refine lv_tableIn (tgt := 57) (off := 42) hx hb d_PS_about_15 (by decide) (by decide) (by decide) (by decide) ?_
        refine lv_aload_n hx hb d_PS_about_57 rfl (lv_at hl 1 rfl) ?_
        refine va_get (D := (dC, dI)) (ci := 0) (v := .ref vw) (C := R_PS) (T := F_PS) (N := 11) hx hb hts i_PS hown hK hP 2 rfl rfl 5 (by decide) (hts _ gw_553) (fun _ h9 => h9) rfl d_PS_about_58 ?_
        have hPc := hP.sub (ws' := [(vw, .inr (11, [vw_files, .ref no, vw_namings, .int 0, .int 0, .ref sk, vw_changes, .ref rr, .int ver, vw_over, .int 1, .ref hd, vw_nexts, .ref sg]))]) [4] rfl
        have hDc := hD.sub (ws' := [(vw, .inr (11, [vw_files, .ref no, vw_namings, .int 0, .int 0, .ref sk, vw_changes, .ref rr, .int ver, vw_over, .int 1, .ref hd, vw_nexts, .ref sg]))]) [4] (by decide) rfl
        have hFc := va_free (wc := [(vw, .inr (11, [vw_files, .ref no, vw_namings, .int 0, .int 0, .ref sk, vw_changes, .ref rr, .int ver, vw_over, .int 1, .ref hd, vw_nexts, .ref sg]))]) hD hS hA [4] rfl
        refine va_calli (va_runV (As := []) (rest := []) ⟨hx, hb, hml, hown, hts⟩ (m_Vw_many0 l dC dI cI cB cL cZ cR vw (vw_files) (.ref no) (vw_namings) (.int 0) (.ref sk) (vw_changes) (.ref rr) (.int ver) (vw_over) (.int 1) (.ref hd) (vw_nexts) (.ref sg) H.size ) (cwV 0 hts (xg_V gw_1316 gw_1317 gw_1318 gw_8 gw_1319) rfl rfl rfl (by decide +kernel) ⟨Nat.le_of_ble_eq_true rfl, Nat.le_of_ble_eq_true rfl⟩) ⟨xw_blind, va_recv hK hPc (ci := 11) (q0 := 0) rfl rfl, fun U hU hW => ⟨rfl, by rw [hU], by rw [hU]; exact hPc, va_K.moved hW.alike hK, hDc.weaken (fun _ _ _ _ => trivial)⟩⟩ rfl rfl hl.1 rfl (lv_room (Nat.le_of_ble_eq_true rfl)) d_PS_about_61 ⟨Nat.le_of_ble_eq_true rfl, Nat.le_of_ble_eq_true rfl⟩) hS (fun q _ h => hFc q h) hFc (fun r9 u t H1 locs ht hvm hw hB hz1 hk1 hS => ?_)
        obtain ⟨hP1, hK1, hD1⟩ := hB
        rw [ht] at hP1
        obtain ⟨hP, hD⟩ := va_join (wr := [(hd, .inl (cI, 256, .inl f1)), (sg, .inl (cI, 200, .inl f2)), (h, .inr (0, [ps_tape, .ref rp, ps_sha, ps_stock, ps_intake, .ref vw, ps_text, ps_maker, ps_recording, ps_tapeLength, ps_lastFault])), (rp, .inl (cR, 8, .inr (.inr (.inr (.inr rf))))), (no, .inl (cI, 200, .inl no1)), (rr, .inr (7, [rr_members, rr_digest, .int 0, .int ver, rr_digestVersion])), (sk, .inr (9, [sk_bytes, sk_from, sk_firstDependency, sk_firstChange, sk_dependencies, sk_hashes, sk_byHash, sk_leansOn, sk_leantBy, sk_changes, sk_lines, .int 0]))]) (w1 := [(vw, .inr (11, [vw_files, .ref no, vw_namings, .int 0, .int 0, .ref sk, vw_changes, .ref rr, .int ver, vw_over, .int 1, .ref hd, vw_nexts, .ref sg]))]) hP hD [4] [0, 1, 2, 3, 5, 6, 7] rfl rfl (by decide) (by decide) hk1 hFc hP1 hD1
        generalize H1 = H at hP hS ⊢
        have hP : va_P (dC, dI) classes [(hd, .inl (cI, 256, .inl f1)), (sg, .inl (cI, 200, .inl f2)), (h, .inr (0, [ps_tape, .ref rp, ps_sha, ps_stock, ps_intake, .ref vw, ps_text, ps_maker, ps_recording, ps_tapeLength, ps_lastFault])), (rp, .inl (cR, 8, .inr (.inr (.inr (.inr rf))))), (no, .inl (cI, 200, .inl no1)), (rr, .inr (7, [rr_members, rr_digest, .int 0, .int ver, rr_digestVersion])), (sk, .inr (9, [sk_bytes, sk_from, sk_firstDependency, sk_firstChange, sk_dependencies, sk_hashes, sk_byHash, sk_leansOn, sk_leantBy, sk_changes, sk_lines, .int 0])), (vw, .inr (11, [vw_files, .ref no, vw_namings, .int 0, .int 0, .ref sk, vw_changes, .ref rr, .int ver, vw_over, .int 1, .ref hd, vw_nexts, .ref sg]))] H := hP
        have hD : va_D A [(hd, .inl (cI, 256, .inl f1)), (sg, .inl (cI, 200, .inl f2)), (h, .inr (0, [ps_tape, .ref rp, ps_sha, ps_stock, ps_intake, .ref vw, ps_text, ps_maker, ps_recording, ps_tapeLength, ps_lastFault])), (rp, .inl (cR, 8, .inr (.inr (.inr (.inr rf))))), (no, .inl (cI, 200, .inl no1)), (rr, .inr (7, [rr_members, rr_digest, .int 0, .int ver, rr_digestVersion])), (sk, .inr (9, [sk_bytes, sk_from, sk_firstDependency, sk_firstChange, sk_dependencies, sk_hashes, sk_byHash, sk_leansOn, sk_leantBy, sk_changes, sk_lines, .int 0])), (vw, .inr (11, [vw_files, .ref no, vw_namings, .int 0, .int 0, .ref sk, vw_changes, .ref rr, .int ver, vw_over, .int 1, .ref hd, vw_nexts, .ref sg]))] := hD
        subst hw
        refine W.widen (k := 2) (n := 12) (Nat.le_of_ble_eq_true rfl) (Nat.le_of_ble_eq_true rfl) ?_
        exact xc_ret (W.iret (v := 0) hx hb hr (fun t ht hW => ⟨Or.inl ⟨_, (), rfl, ⟨⟨n0, hn0, en0⟩, rfl, 2, by decide, rfl⟩, trivial⟩, hS.F ht⟩) hS.2.2 d_PS_about_64)
      · refine lv_tableIn (tgt := 65) (off := 50) hx hb d_PS_about_15 (by decide) (by decide) (by decide) (by decide) ?_
        refine lv_aload_n hx hb d_PS_about_65 rfl (lv_at hl 1 rfl) ?_
        refine va_get (D := (dC, dI)) (ci := 0) (v := .ref vw) (C := R_PS) (T := F_PS) (N := 11) hx hb hts i_PS hown hK hP 2 rfl rfl 5 (by decide) (hts _ gw_553) (fun _ h9 => h9) rfl d_PS_about_66 ?_
        have hPc := hP.sub (ws' := [(vw, .inr (11, [vw_files, .ref no, vw_namings, .int 0, .int 0, .ref sk, vw_changes, .ref rr, .int ver, vw_over, .int 1, .ref hd, vw_nexts, .ref sg])), (hd, .inl (cI, 256, .inl f1)), (sg, .inl (cI, 200, .inl f2))]) [4, 0, 1] rfl
        have hDc := hD.sub (ws' := [(vw, .inr (11, [vw_files, .ref no, vw_namings, .int 0, .int 0, .ref sk, vw_changes, .ref rr, .int ver, vw_over, .int 1, .ref hd, vw_nexts, .ref sg])), (hd, .inl (cI, 256, .inl f1)), (sg, .inl (cI, 200, .inl f2))]) [4, 0, 1] (by decide) rfl
        have hFc := va_free (wc := [(vw, .inr (11, [vw_files, .ref no, vw_namings, .int 0, .int 0, .ref sk, vw_changes, .ref rr, .int ver, vw_over, .int 1, .ref hd, vw_nexts, .ref sg])), (hd, .inl (cI, 256, .inl f1)), (sg, .inl (cI, 200, .inl f2))]) hD hS hA [4, 0, 1] rfl
        refine va_calli (va_runV (As := []) (rest := []) ⟨hx, hb, hml, hown, hts⟩ (m_Vw_sharing0 l dC dI cI cB cL cZ cR vw hd sg (vw_files) (.ref no) (vw_namings) (.ref sk) (vw_changes) (.ref rr) (.int ver) (vw_over) (.int 1) (vw_nexts) f1 f2 H.size ) (cwV 0 hts (xg_V gw_1320 gw_1321 gw_1322 gw_8 gw_1323) rfl rfl rfl (by decide +kernel) ⟨Nat.le_of_ble_eq_true rfl, Nat.le_of_ble_eq_true rfl⟩) ⟨xw_blind, va_recv hK hPc (ci := 11) (q0 := 0) rfl rfl, fun U hU hW => ⟨rfl, by rw [hU], by rw [hU]; exact hPc, va_K.moved hW.alike hK, hDc.weaken (fun _ _ _ _ => trivial)⟩⟩ rfl rfl hl.1 rfl (lv_room (Nat.le_of_ble_eq_true rfl)) d_PS_about_69 ⟨Nat.le_of_ble_eq_true rfl, Nat.le_of_ble_eq_true rfl⟩) hS (fun q _ h => hFc q h) hFc (fun r9 u t H1 locs ht hvm hw hB hz1 hk1 hS => ?_)
        obtain ⟨fa1, fa2⟩ := u
        have hw : r9 = 0 := hw
        obtain ⟨hP1, hK1, hD1⟩ := hB
        rw [ht] at hP1
        obtain ⟨hP, hD⟩ := va_join (wr := [(h, .inr (0, [ps_tape, .ref rp, ps_sha, ps_stock, ps_intake, .ref vw, ps_text, ps_maker, ps_recording, ps_tapeLength, ps_lastFault])), (rp, .inl (cR, 8, .inr (.inr (.inr (.inr rf))))), (no, .inl (cI, 200, .inl no1)), (rr, .inr (7, [rr_members, rr_digest, .int 0, .int ver, rr_digestVersion])), (sk, .inr (9, [sk_bytes, sk_from, sk_firstDependency, sk_firstChange, sk_dependencies, sk_hashes, sk_byHash, sk_leansOn, sk_leantBy, sk_changes, sk_lines, .int 0]))]) (w1 := [(vw, .inr (11, [vw_files, .ref no, vw_namings, .int 0, .int 0, .ref sk, vw_changes, .ref rr, .int ver, vw_over, .int 1, .ref hd, vw_nexts, .ref sg])), (hd, .inl (cI, 256, .inl fa1)), (sg, .inl (cI, 200, .inl fa2))]) hP hD [4, 0, 1] [2, 3, 5, 6, 7] rfl rfl (by decide) (by decide) hk1 hFc hP1 hD1
        generalize H1 = H at hP hS ⊢
        have hP : va_P (dC, dI) classes [(h, .inr (0, [ps_tape, .ref rp, ps_sha, ps_stock, ps_intake, .ref vw, ps_text, ps_maker, ps_recording, ps_tapeLength, ps_lastFault])), (rp, .inl (cR, 8, .inr (.inr (.inr (.inr rf))))), (no, .inl (cI, 200, .inl no1)), (rr, .inr (7, [rr_members, rr_digest, .int 0, .int ver, rr_digestVersion])), (sk, .inr (9, [sk_bytes, sk_from, sk_firstDependency, sk_firstChange, sk_dependencies, sk_hashes, sk_byHash, sk_leansOn, sk_leantBy, sk_changes, sk_lines, .int 0])), (vw, .inr (11, [vw_files, .ref no, vw_namings, .int 0, .int 0, .ref sk, vw_changes, .ref rr, .int ver, vw_over, .int 1, .ref hd, vw_nexts, .ref sg])), (hd, .inl (cI, 256, .inl fa1)), (sg, .inl (cI, 200, .inl fa2))] H := hP
        have hD : va_D A [(h, .inr (0, [ps_tape, .ref rp, ps_sha, ps_stock, ps_intake, .ref vw, ps_text, ps_maker, ps_recording, ps_tapeLength, ps_lastFault])), (rp, .inl (cR, 8, .inr (.inr (.inr (.inr rf))))), (no, .inl (cI, 200, .inl no1)), (rr, .inr (7, [rr_members, rr_digest, .int 0, .int ver, rr_digestVersion])), (sk, .inr (9, [sk_bytes, sk_from, sk_firstDependency, sk_firstChange, sk_dependencies, sk_hashes, sk_byHash, sk_leansOn, sk_leantBy, sk_changes, sk_lines, .int 0])), (vw, .inr (11, [vw_files, .ref no, vw_namings, .int 0, .int 0, .ref sk, vw_changes, .ref rr, .int ver, vw_over, .int 1, .ref hd, vw_nexts, .ref sg])), (hd, .inl (cI, 256, .inl fa1)), (sg, .inl (cI, 200, .inl fa2))] := hD
        subst hw
        refine W.widen (k := 2) (n := 12) (Nat.le_of_ble_eq_true rfl) (Nat.le_of_ble_eq_true rfl) ?_
        exact xc_ret (W.iret (v := 0) hx hb hr (fun t ht hW => ⟨Or.inl ⟨_, (), rfl, ⟨⟨n0, hn0, en0⟩, rfl, 3, by decide, rfl⟩, trivial⟩, hS.F ht⟩) hS.2.2 d_PS_about_72)
  · obtain ⟨hbad, rfl⟩ := hw
    refine xc_TW.widen (k := 2) (n := 12) (Nat.le_of_ble_eq_true rfl) (Nat.le_of_ble_eq_true rfl) ?_
    exact xc_pass (u := ()) hlocks hno ht hvm hex (Or.inl ⟨hbad, rfl⟩) (fun _ _ _ => trivial) hS
