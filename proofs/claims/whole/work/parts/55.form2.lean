/-! 55.form2.lean.txt -/
theorem gw_770 : (Jvm.Cond.methodLink "PatchStore$Form" (25 : Nat) ({ cls := "PatchStore$Stock", name := "two", desc := "(I)I" } : Jvm.MethodName)) ∈ xg_1 := xg_s4 50 rfl rfl
theorem gw_771 : (Jvm.Cond.instanceMethod ({ cls := "PatchStore$Stock", name := "two", desc := "(I)I" } : Jvm.MethodName)) ∈ xg_1 := xg_s4 51 rfl rfl
theorem gw_772 : (Jvm.Cond.selects "PatchStore$Stock" ({ cls := "PatchStore$Stock", name := "two", desc := "(I)I" } : Jvm.MethodName) ({ cls := "PatchStore$Stock", name := "two", desc := "(I)I" } : Jvm.MethodName)) ∈ xg_1 := xg_s4 52 rfl rfl
theorem gw_773 : (Jvm.Cond.code ({ cls := "PatchStore$Stock", name := "two", desc := "(I)I" } : Jvm.MethodName) prog_10_method_3_code (2 : Nat) (Option.some Jvm.ClassFile.FieldType.int)) ∈ xg_1 := xg_s4 53 rfl rfl
theorem gw_790 : (Jvm.Cond.methodLink "PatchStore$Form" (61 : Nat) ({ cls := "PatchStore$Form", name := "nameEnd", desc := "(III)I" } : Jvm.MethodName)) ∈ xg_1 := xg_s4 70 rfl rfl
theorem gw_792 : (Jvm.Cond.instanceMethod ({ cls := "PatchStore$Form", name := "nameEnd", desc := "(III)I" } : Jvm.MethodName)) ∈ xg_1 := xg_s4 72 rfl rfl
theorem gw_793 : (Jvm.Cond.code ({ cls := "PatchStore$Form", name := "nameEnd", desc := "(III)I" } : Jvm.MethodName) prog_3_method_7_code (5 : Nat) (Option.some Jvm.ClassFile.FieldType.int)) ∈ xg_1 := xg_s4 73 rfl rfl
theorem gw_795 : (Jvm.Cond.methodLink "PatchStore$Form" (65 : Nat) ({ cls := "PatchStore$Form", name := "callEnd", desc := "(II)I" } : Jvm.MethodName)) ∈ xg_1 := xg_s4 75 rfl rfl
theorem gw_797 : (Jvm.Cond.instanceMethod ({ cls := "PatchStore$Form", name := "callEnd", desc := "(II)I" } : Jvm.MethodName)) ∈ xg_1 := xg_s4 77 rfl rfl
theorem gw_798 : (Jvm.Cond.code ({ cls := "PatchStore$Form", name := "callEnd", desc := "(II)I" } : Jvm.MethodName) prog_3_method_8_code (3 : Nat) (Option.some Jvm.ClassFile.FieldType.int)) ∈ xg_1 := xg_s4 78 rfl rfl
theorem gw_799 : (Jvm.Cond.methodLink "PatchStore$Form" (68 : Nat) ({ cls := "PatchStore$Form", name := "insertEnd", desc := "(II)I" } : Jvm.MethodName)) ∈ xg_1 := xg_s4 79 rfl rfl
theorem gw_801 : (Jvm.Cond.instanceMethod ({ cls := "PatchStore$Form", name := "insertEnd", desc := "(II)I" } : Jvm.MethodName)) ∈ xg_1 := xg_s4 81 rfl rfl
theorem gw_802 : (Jvm.Cond.code ({ cls := "PatchStore$Form", name := "insertEnd", desc := "(II)I" } : Jvm.MethodName) prog_3_method_9_code (6 : Nat) (Option.some Jvm.ClassFile.FieldType.int)) ∈ xg_1 := xg_s4 82 rfl rfl
theorem gw_803 : (Jvm.Cond.methodLink "PatchStore$Form" (75 : Nat) ({ cls := "PatchStore$Form", name := "placeEnd", desc := "(II)I" } : Jvm.MethodName)) ∈ xg_1 := xg_s4 83 rfl rfl
theorem gw_805 : (Jvm.Cond.instanceMethod ({ cls := "PatchStore$Form", name := "placeEnd", desc := "(II)I" } : Jvm.MethodName)) ∈ xg_1 := xg_s4 85 rfl rfl
theorem gw_806 : (Jvm.Cond.code ({ cls := "PatchStore$Form", name := "placeEnd", desc := "(II)I" } : Jvm.MethodName) prog_3_method_10_code (3 : Nat) (Option.some Jvm.ClassFile.FieldType.int)) ∈ xg_1 := xg_s4 86 rfl rfl
theorem gw_807 : (Jvm.Cond.methodLink "PatchStore$Form" (78 : Nat) ({ cls := "PatchStore$Form", name := "lineEnd", desc := "(II)I" } : Jvm.MethodName)) ∈ xg_1 := xg_s4 87 rfl rfl
theorem gw_809 : (Jvm.Cond.instanceMethod ({ cls := "PatchStore$Form", name := "lineEnd", desc := "(II)I" } : Jvm.MethodName)) ∈ xg_1 := xg_s4 89 rfl rfl
theorem gw_810 : (Jvm.Cond.code ({ cls := "PatchStore$Form", name := "lineEnd", desc := "(II)I" } : Jvm.MethodName) prog_3_method_11_code (6 : Nat) (Option.some Jvm.ClassFile.FieldType.int)) ∈ xg_1 := xg_s4 90 rfl rfl
def y_Fo_callEnd : MethodName := ⟨"PatchStore$Form", "callEnd", "(II)I"⟩
abbrev c_Fo_callEnd : Cond := (Jvm.Cond.code ({ cls := "PatchStore$Form", name := "callEnd", desc := "(II)I" } : Jvm.MethodName) prog_3_method_8_code (3 : Nat) (Option.some Jvm.ClassFile.FieldType.int))
abbrev ws_Fo_callEnd : List Cond := c_Fo_callEnd :: xg_1
theorem d_Fo_callEnd_0 : decode prog_3_method_8_code 0 = .ok (.iload_n 1, 1) := by decide +kernel
theorem d_Fo_callEnd_1 : decode prog_3_method_8_code 1 = .ok (.bipush 6, 2) := by decide +kernel
theorem d_Fo_callEnd_3 : decode prog_3_method_8_code 3 = .ok (.iadd, 1) := by decide +kernel
theorem d_Fo_callEnd_4 : decode prog_3_method_8_code 4 = .ok (.iload_n 2, 1) := by decide +kernel
theorem d_Fo_callEnd_5 : decode prog_3_method_8_code 5 = .ok (.if_icmp .gt 17, 3) := by decide +kernel
theorem d_Fo_callEnd_8 : decode prog_3_method_8_code 8 = .ok (.aload_n 0, 1) := by decide +kernel
theorem d_Fo_callEnd_9 : decode prog_3_method_8_code 9 = .ok (.getfield 9, 3) := by decide +kernel
theorem d_Fo_callEnd_12 : decode prog_3_method_8_code 12 = .ok (.getfield 37, 3) := by decide +kernel
theorem d_Fo_callEnd_15 : decode prog_3_method_8_code 15 = .ok (.iload_n 1, 1) := by decide +kernel
theorem d_Fo_callEnd_16 : decode prog_3_method_8_code 16 = .ok (.iconst 5, 1) := by decide +kernel
theorem d_Fo_callEnd_17 : decode prog_3_method_8_code 17 = .ok (.iadd, 1) := by decide +kernel
theorem d_Fo_callEnd_18 : decode prog_3_method_8_code 18 = .ok (.baload, 1) := by decide +kernel
theorem d_Fo_callEnd_19 : decode prog_3_method_8_code 19 = .ok (.ifCond .ne 5, 3) := by decide +kernel
theorem d_Fo_callEnd_22 : decode prog_3_method_8_code 22 = .ok (.iconst (-1), 1) := by decide +kernel
theorem d_Fo_callEnd_23 : decode prog_3_method_8_code 23 = .ok (.ireturn, 1) := by decide +kernel
theorem d_Fo_callEnd_24 : decode prog_3_method_8_code 24 = .ok (.aload_n 0, 1) := by decide +kernel
theorem d_Fo_callEnd_25 : decode prog_3_method_8_code 25 = .ok (.iload_n 1, 1) := by decide +kernel
theorem d_Fo_callEnd_26 : decode prog_3_method_8_code 26 = .ok (.bipush 6, 2) := by decide +kernel
theorem d_Fo_callEnd_28 : decode prog_3_method_8_code 28 = .ok (.iadd, 1) := by decide +kernel
theorem d_Fo_callEnd_29 : decode prog_3_method_8_code 29 = .ok (.iconst 4, 1) := by decide +kernel
theorem d_Fo_callEnd_30 : decode prog_3_method_8_code 30 = .ok (.aload_n 0, 1) := by decide +kernel
theorem d_Fo_callEnd_31 : decode prog_3_method_8_code 31 = .ok (.getfield 9, 3) := by decide +kernel
theorem d_Fo_callEnd_34 : decode prog_3_method_8_code 34 = .ok (.getfield 37, 3) := by decide +kernel
theorem d_Fo_callEnd_37 : decode prog_3_method_8_code 37 = .ok (.iload_n 1, 1) := by decide +kernel
theorem d_Fo_callEnd_38 : decode prog_3_method_8_code 38 = .ok (.iconst 5, 1) := by decide +kernel
theorem d_Fo_callEnd_39 : decode prog_3_method_8_code 39 = .ok (.iadd, 1) := by decide +kernel
theorem d_Fo_callEnd_40 : decode prog_3_method_8_code 40 = .ok (.baload, 1) := by decide +kernel
theorem d_Fo_callEnd_41 : decode prog_3_method_8_code 41 = .ok (.sipush 255, 3) := by decide +kernel
theorem d_Fo_callEnd_44 : decode prog_3_method_8_code 44 = .ok (.iand, 1) := by decide +kernel
theorem d_Fo_callEnd_45 : decode prog_3_method_8_code 45 = .ok (.imul, 1) := by decide +kernel
theorem d_Fo_callEnd_46 : decode prog_3_method_8_code 46 = .ok (.iadd, 1) := by decide +kernel
theorem d_Fo_callEnd_47 : decode prog_3_method_8_code 47 = .ok (.iload_n 2, 1) := by decide +kernel
theorem d_Fo_callEnd_48 : decode prog_3_method_8_code 48 = .ok (.iconst 0, 1) := by decide +kernel
theorem d_Fo_callEnd_49 : decode prog_3_method_8_code 49 = .ok (.invokevirtual 61, 3) := by decide +kernel
theorem d_Fo_callEnd_52 : decode prog_3_method_8_code 52 = .ok (.ireturn, 1) := by decide +kernel
def y_Fo_placeEnd : MethodName := ⟨"PatchStore$Form", "placeEnd", "(II)I"⟩
abbrev c_Fo_placeEnd : Cond := (Jvm.Cond.code ({ cls := "PatchStore$Form", name := "placeEnd", desc := "(II)I" } : Jvm.MethodName) prog_3_method_10_code (3 : Nat) (Option.some Jvm.ClassFile.FieldType.int))
abbrev ws_Fo_placeEnd : List Cond := c_Fo_placeEnd :: xg_1
theorem d_Fo_placeEnd_0 : decode prog_3_method_10_code 0 = .ok (.iload_n 1, 1) := by decide +kernel
theorem d_Fo_placeEnd_1 : decode prog_3_method_10_code 1 = .ok (.ifCond .lt 8, 3) := by decide +kernel
theorem d_Fo_placeEnd_4 : decode prog_3_method_10_code 4 = .ok (.iload_n 1, 1) := by decide +kernel
theorem d_Fo_placeEnd_5 : decode prog_3_method_10_code 5 = .ok (.iload_n 2, 1) := by decide +kernel
theorem d_Fo_placeEnd_6 : decode prog_3_method_10_code 6 = .ok (.if_icmp .lt 5, 3) := by decide +kernel
theorem d_Fo_placeEnd_9 : decode prog_3_method_10_code 9 = .ok (.iconst (-1), 1) := by decide +kernel
theorem d_Fo_placeEnd_10 : decode prog_3_method_10_code 10 = .ok (.ireturn, 1) := by decide +kernel
theorem d_Fo_placeEnd_11 : decode prog_3_method_10_code 11 = .ok (.aload_n 0, 1) := by decide +kernel
theorem d_Fo_placeEnd_12 : decode prog_3_method_10_code 12 = .ok (.getfield 9, 3) := by decide +kernel
theorem d_Fo_placeEnd_15 : decode prog_3_method_10_code 15 = .ok (.getfield 37, 3) := by decide +kernel
theorem d_Fo_placeEnd_18 : decode prog_3_method_10_code 18 = .ok (.iload_n 1, 1) := by decide +kernel
theorem d_Fo_placeEnd_19 : decode prog_3_method_10_code 19 = .ok (.baload, 1) := by decide +kernel
theorem d_Fo_placeEnd_20 : decode prog_3_method_10_code 20 = .ok (.ifCond .ne 7, 3) := by decide +kernel
theorem d_Fo_placeEnd_23 : decode prog_3_method_10_code 23 = .ok (.iload_n 1, 1) := by decide +kernel
theorem d_Fo_placeEnd_24 : decode prog_3_method_10_code 24 = .ok (.iconst 1, 1) := by decide +kernel
theorem d_Fo_placeEnd_25 : decode prog_3_method_10_code 25 = .ok (.iadd, 1) := by decide +kernel
theorem d_Fo_placeEnd_26 : decode prog_3_method_10_code 26 = .ok (.ireturn, 1) := by decide +kernel
theorem d_Fo_placeEnd_27 : decode prog_3_method_10_code 27 = .ok (.aload_n 0, 1) := by decide +kernel
theorem d_Fo_placeEnd_28 : decode prog_3_method_10_code 28 = .ok (.getfield 9, 3) := by decide +kernel
theorem d_Fo_placeEnd_31 : decode prog_3_method_10_code 31 = .ok (.getfield 37, 3) := by decide +kernel
theorem d_Fo_placeEnd_34 : decode prog_3_method_10_code 34 = .ok (.iload_n 1, 1) := by decide +kernel
theorem d_Fo_placeEnd_35 : decode prog_3_method_10_code 35 = .ok (.baload, 1) := by decide +kernel
theorem d_Fo_placeEnd_36 : decode prog_3_method_10_code 36 = .ok (.iconst 1, 1) := by decide +kernel
theorem d_Fo_placeEnd_37 : decode prog_3_method_10_code 37 = .ok (.if_icmp .ne 10, 3) := by decide +kernel
theorem d_Fo_placeEnd_40 : decode prog_3_method_10_code 40 = .ok (.iload_n 1, 1) := by decide +kernel
theorem d_Fo_placeEnd_41 : decode prog_3_method_10_code 41 = .ok (.bipush 7, 2) := by decide +kernel
theorem d_Fo_placeEnd_43 : decode prog_3_method_10_code 43 = .ok (.iadd, 1) := by decide +kernel
theorem d_Fo_placeEnd_44 : decode prog_3_method_10_code 44 = .ok (.goto 4, 3) := by decide +kernel
theorem d_Fo_placeEnd_47 : decode prog_3_method_10_code 47 = .ok (.iconst (-1), 1) := by decide +kernel
theorem d_Fo_placeEnd_48 : decode prog_3_method_10_code 48 = .ok (.ireturn, 1) := by decide +kernel
def y_Fo_lineEnd : MethodName := ⟨"PatchStore$Form", "lineEnd", "(II)I"⟩
abbrev c_Fo_lineEnd : Cond := (Jvm.Cond.code ({ cls := "PatchStore$Form", name := "lineEnd", desc := "(II)I" } : Jvm.MethodName) prog_3_method_11_code (6 : Nat) (Option.some Jvm.ClassFile.FieldType.int))
abbrev ws_Fo_lineEnd : List Cond := c_Fo_lineEnd :: xg_1
theorem d_Fo_lineEnd_0 : decode prog_3_method_11_code 0 = .ok (.iload_n 1, 1) := by decide +kernel
theorem d_Fo_lineEnd_1 : decode prog_3_method_11_code 1 = .ok (.iconst 2, 1) := by decide +kernel
theorem d_Fo_lineEnd_2 : decode prog_3_method_11_code 2 = .ok (.iadd, 1) := by decide +kernel
theorem d_Fo_lineEnd_3 : decode prog_3_method_11_code 3 = .ok (.iload_n 2, 1) := by decide +kernel
theorem d_Fo_lineEnd_4 : decode prog_3_method_11_code 4 = .ok (.if_icmp .le 5, 3) := by decide +kernel
theorem d_Fo_lineEnd_7 : decode prog_3_method_11_code 7 = .ok (.iconst (-1), 1) := by decide +kernel
theorem d_Fo_lineEnd_8 : decode prog_3_method_11_code 8 = .ok (.ireturn, 1) := by decide +kernel
theorem d_Fo_lineEnd_9 : decode prog_3_method_11_code 9 = .ok (.aload_n 0, 1) := by decide +kernel
theorem d_Fo_lineEnd_10 : decode prog_3_method_11_code 10 = .ok (.getfield 9, 3) := by decide +kernel
theorem d_Fo_lineEnd_13 : decode prog_3_method_11_code 13 = .ok (.iload_n 1, 1) := by decide +kernel
theorem d_Fo_lineEnd_14 : decode prog_3_method_11_code 14 = .ok (.invokevirtual 25, 3) := by decide +kernel
theorem d_Fo_lineEnd_17 : decode prog_3_method_11_code 17 = .ok (.istore_n 3, 1) := by decide +kernel
theorem d_Fo_lineEnd_18 : decode prog_3_method_11_code 18 = .ok (.iload_n 1, 1) := by decide +kernel
theorem d_Fo_lineEnd_19 : decode prog_3_method_11_code 19 = .ok (.iconst 1, 1) := by decide +kernel
theorem d_Fo_lineEnd_20 : decode prog_3_method_11_code 20 = .ok (.iadd, 1) := by decide +kernel
theorem d_Fo_lineEnd_21 : decode prog_3_method_11_code 21 = .ok (.iload_n 3, 1) := by decide +kernel
theorem d_Fo_lineEnd_22 : decode prog_3_method_11_code 22 = .ok (.iadd, 1) := by decide +kernel
theorem d_Fo_lineEnd_23 : decode prog_3_method_11_code 23 = .ok (.istore 4, 2) := by decide +kernel
theorem d_Fo_lineEnd_25 : decode prog_3_method_11_code 25 = .ok (.iload_n 3, 1) := by decide +kernel
theorem d_Fo_lineEnd_26 : decode prog_3_method_11_code 26 = .ok (.ifCond .eq 16, 3) := by decide +kernel
theorem d_Fo_lineEnd_29 : decode prog_3_method_11_code 29 = .ok (.iload_n 3, 1) := by decide +kernel
theorem d_Fo_lineEnd_30 : decode prog_3_method_11_code 30 = .ok (.sipush 500, 3) := by decide +kernel
theorem d_Fo_lineEnd_33 : decode prog_3_method_11_code 33 = .ok (.if_icmp .gt 9, 3) := by decide +kernel
theorem d_Fo_lineEnd_36 : decode prog_3_method_11_code 36 = .ok (.iload 4, 2) := by decide +kernel
theorem d_Fo_lineEnd_38 : decode prog_3_method_11_code 38 = .ok (.iload_n 2, 1) := by decide +kernel
theorem d_Fo_lineEnd_39 : decode prog_3_method_11_code 39 = .ok (.if_icmp .lt 5, 3) := by decide +kernel
theorem d_Fo_lineEnd_42 : decode prog_3_method_11_code 42 = .ok (.iconst (-1), 1) := by decide +kernel
theorem d_Fo_lineEnd_43 : decode prog_3_method_11_code 43 = .ok (.ireturn, 1) := by decide +kernel
theorem d_Fo_lineEnd_44 : decode prog_3_method_11_code 44 = .ok (.iload_n 1, 1) := by decide +kernel
theorem d_Fo_lineEnd_45 : decode prog_3_method_11_code 45 = .ok (.iconst 2, 1) := by decide +kernel
theorem d_Fo_lineEnd_46 : decode prog_3_method_11_code 46 = .ok (.iadd, 1) := by decide +kernel
theorem d_Fo_lineEnd_47 : decode prog_3_method_11_code 47 = .ok (.istore 5, 2) := by decide +kernel
theorem d_Fo_lineEnd_49 : decode prog_3_method_11_code 49 = .ok (.iload 5, 2) := by decide +kernel
theorem d_Fo_lineEnd_51 : decode prog_3_method_11_code 51 = .ok (.iload 4, 2) := by decide +kernel
theorem d_Fo_lineEnd_53 : decode prog_3_method_11_code 53 = .ok (.if_icmp .ge 26, 3) := by decide +kernel
theorem d_Fo_lineEnd_56 : decode prog_3_method_11_code 56 = .ok (.aload_n 0, 1) := by decide +kernel
theorem d_Fo_lineEnd_57 : decode prog_3_method_11_code 57 = .ok (.getfield 9, 3) := by decide +kernel
theorem d_Fo_lineEnd_60 : decode prog_3_method_11_code 60 = .ok (.getfield 37, 3) := by decide +kernel
theorem d_Fo_lineEnd_63 : decode prog_3_method_11_code 63 = .ok (.iload 5, 2) := by decide +kernel
theorem d_Fo_lineEnd_65 : decode prog_3_method_11_code 65 = .ok (.baload, 1) := by decide +kernel
theorem d_Fo_lineEnd_66 : decode prog_3_method_11_code 66 = .ok (.bipush 10, 2) := by decide +kernel
theorem d_Fo_lineEnd_68 : decode prog_3_method_11_code 68 = .ok (.if_icmp .ne 5, 3) := by decide +kernel
theorem d_Fo_lineEnd_71 : decode prog_3_method_11_code 71 = .ok (.iconst (-1), 1) := by decide +kernel
theorem d_Fo_lineEnd_72 : decode prog_3_method_11_code 72 = .ok (.ireturn, 1) := by decide +kernel
theorem d_Fo_lineEnd_73 : decode prog_3_method_11_code 73 = .ok (.iinc 5 1, 3) := by decide +kernel
theorem d_Fo_lineEnd_76 : decode prog_3_method_11_code 76 = .ok (.goto (-27), 3) := by decide +kernel
theorem d_Fo_lineEnd_79 : decode prog_3_method_11_code 79 = .ok (.iload 4, 2) := by decide +kernel
theorem d_Fo_lineEnd_81 : decode prog_3_method_11_code 81 = .ok (.iconst 1, 1) := by decide +kernel
theorem d_Fo_lineEnd_82 : decode prog_3_method_11_code 82 = .ok (.iadd, 1) := by decide +kernel
theorem d_Fo_lineEnd_83 : decode prog_3_method_11_code 83 = .ok (.ireturn, 1) := by decide +kernel
def y_Fo_insertEnd : MethodName := ⟨"PatchStore$Form", "insertEnd", "(II)I"⟩
abbrev c_Fo_insertEnd : Cond := (Jvm.Cond.code ({ cls := "PatchStore$Form", name := "insertEnd", desc := "(II)I" } : Jvm.MethodName) prog_3_method_9_code (6 : Nat) (Option.some Jvm.ClassFile.FieldType.int))
abbrev ws_Fo_insertEnd : List Cond := c_Fo_insertEnd :: xg_1
theorem d_Fo_insertEnd_0 : decode prog_3_method_9_code 0 = .ok (.aload_n 0, 1) := by decide +kernel
theorem d_Fo_insertEnd_1 : decode prog_3_method_9_code 1 = .ok (.aload_n 0, 1) := by decide +kernel
theorem d_Fo_insertEnd_2 : decode prog_3_method_9_code 2 = .ok (.iload_n 1, 1) := by decide +kernel
theorem d_Fo_insertEnd_3 : decode prog_3_method_9_code 3 = .ok (.iconst 5, 1) := by decide +kernel
theorem d_Fo_insertEnd_4 : decode prog_3_method_9_code 4 = .ok (.iadd, 1) := by decide +kernel
theorem d_Fo_insertEnd_5 : decode prog_3_method_9_code 5 = .ok (.iload_n 2, 1) := by decide +kernel
theorem d_Fo_insertEnd_6 : decode prog_3_method_9_code 6 = .ok (.invokevirtual 75, 3) := by decide +kernel
theorem d_Fo_insertEnd_9 : decode prog_3_method_9_code 9 = .ok (.iload_n 2, 1) := by decide +kernel
theorem d_Fo_insertEnd_10 : decode prog_3_method_9_code 10 = .ok (.invokevirtual 75, 3) := by decide +kernel
theorem d_Fo_insertEnd_13 : decode prog_3_method_9_code 13 = .ok (.istore_n 3, 1) := by decide +kernel
theorem d_Fo_insertEnd_14 : decode prog_3_method_9_code 14 = .ok (.iload_n 3, 1) := by decide +kernel
theorem d_Fo_insertEnd_15 : decode prog_3_method_9_code 15 = .ok (.ifCond .lt 10, 3) := by decide +kernel
theorem d_Fo_insertEnd_18 : decode prog_3_method_9_code 18 = .ok (.iload_n 3, 1) := by decide +kernel
theorem d_Fo_insertEnd_19 : decode prog_3_method_9_code 19 = .ok (.iconst 2, 1) := by decide +kernel
theorem d_Fo_insertEnd_20 : decode prog_3_method_9_code 20 = .ok (.iadd, 1) := by decide +kernel
theorem d_Fo_insertEnd_21 : decode prog_3_method_9_code 21 = .ok (.iload_n 2, 1) := by decide +kernel
theorem d_Fo_insertEnd_22 : decode prog_3_method_9_code 22 = .ok (.if_icmp .le 5, 3) := by decide +kernel
theorem d_Fo_insertEnd_25 : decode prog_3_method_9_code 25 = .ok (.iconst (-1), 1) := by decide +kernel
theorem d_Fo_insertEnd_26 : decode prog_3_method_9_code 26 = .ok (.ireturn, 1) := by decide +kernel
theorem d_Fo_insertEnd_27 : decode prog_3_method_9_code 27 = .ok (.aload_n 0, 1) := by decide +kernel
theorem d_Fo_insertEnd_28 : decode prog_3_method_9_code 28 = .ok (.getfield 9, 3) := by decide +kernel
theorem d_Fo_insertEnd_31 : decode prog_3_method_9_code 31 = .ok (.iload_n 3, 1) := by decide +kernel
theorem d_Fo_insertEnd_32 : decode prog_3_method_9_code 32 = .ok (.invokevirtual 25, 3) := by decide +kernel
theorem d_Fo_insertEnd_35 : decode prog_3_method_9_code 35 = .ok (.istore 4, 2) := by decide +kernel
theorem d_Fo_insertEnd_37 : decode prog_3_method_9_code 37 = .ok (.iload 4, 2) := by decide +kernel
theorem d_Fo_insertEnd_39 : decode prog_3_method_9_code 39 = .ok (.ifCond .ne 5, 3) := by decide +kernel
theorem d_Fo_insertEnd_42 : decode prog_3_method_9_code 42 = .ok (.iconst (-1), 1) := by decide +kernel
theorem d_Fo_insertEnd_43 : decode prog_3_method_9_code 43 = .ok (.ireturn, 1) := by decide +kernel
theorem d_Fo_insertEnd_44 : decode prog_3_method_9_code 44 = .ok (.iinc 3 2, 3) := by decide +kernel
theorem d_Fo_insertEnd_47 : decode prog_3_method_9_code 47 = .ok (.iconst 0, 1) := by decide +kernel
theorem d_Fo_insertEnd_48 : decode prog_3_method_9_code 48 = .ok (.istore 5, 2) := by decide +kernel
theorem d_Fo_insertEnd_50 : decode prog_3_method_9_code 50 = .ok (.iload 5, 2) := by decide +kernel
theorem d_Fo_insertEnd_52 : decode prog_3_method_9_code 52 = .ok (.iload 4, 2) := by decide +kernel
theorem d_Fo_insertEnd_54 : decode prog_3_method_9_code 54 = .ok (.if_icmp .ge 20, 3) := by decide +kernel
theorem d_Fo_insertEnd_57 : decode prog_3_method_9_code 57 = .ok (.iload_n 3, 1) := by decide +kernel
theorem d_Fo_insertEnd_58 : decode prog_3_method_9_code 58 = .ok (.ifCond .le 16, 3) := by decide +kernel
theorem d_Fo_insertEnd_61 : decode prog_3_method_9_code 61 = .ok (.aload_n 0, 1) := by decide +kernel
theorem d_Fo_insertEnd_62 : decode prog_3_method_9_code 62 = .ok (.iload_n 3, 1) := by decide +kernel
theorem d_Fo_insertEnd_63 : decode prog_3_method_9_code 63 = .ok (.iload_n 2, 1) := by decide +kernel
theorem d_Fo_insertEnd_64 : decode prog_3_method_9_code 64 = .ok (.invokevirtual 78, 3) := by decide +kernel
theorem d_Fo_insertEnd_67 : decode prog_3_method_9_code 67 = .ok (.istore_n 3, 1) := by decide +kernel
theorem d_Fo_insertEnd_68 : decode prog_3_method_9_code 68 = .ok (.iinc 5 1, 3) := by decide +kernel
theorem d_Fo_insertEnd_71 : decode prog_3_method_9_code 71 = .ok (.goto (-21), 3) := by decide +kernel
theorem d_Fo_insertEnd_74 : decode prog_3_method_9_code 74 = .ok (.iload_n 3, 1) := by decide +kernel
theorem d_Fo_insertEnd_75 : decode prog_3_method_9_code 75 = .ok (.ireturn, 1) := by decide +kernel
def y_Fo_changeEnd : MethodName := ⟨"PatchStore$Form", "changeEnd", "(II)I"⟩
abbrev c_Fo_changeEnd : Cond := (Jvm.Cond.code ({ cls := "PatchStore$Form", name := "changeEnd", desc := "(II)I" } : Jvm.MethodName) prog_3_method_6_code (3 : Nat) (Option.some Jvm.ClassFile.FieldType.int))
abbrev ws_Fo_changeEnd : List Cond := c_Fo_changeEnd :: xg_1
theorem d_Fo_changeEnd_0 : decode prog_3_method_6_code 0 = .ok (.aload_n 0, 1) := by decide +kernel
theorem d_Fo_changeEnd_1 : decode prog_3_method_6_code 1 = .ok (.getfield 9, 3) := by decide +kernel
theorem d_Fo_changeEnd_4 : decode prog_3_method_6_code 4 = .ok (.getfield 37, 3) := by decide +kernel
theorem d_Fo_changeEnd_7 : decode prog_3_method_6_code 7 = .ok (.iload_n 1, 1) := by decide +kernel
theorem d_Fo_changeEnd_8 : decode prog_3_method_6_code 8 = .ok (.baload, 1) := by decide +kernel
theorem d_Fo_changeEnd_9 : decode prog_3_method_6_code 9 = .ok (.tableswitch 93 0 4 #[35, 45, 52, 59, 76], 35) := by decide +kernel
theorem d_Fo_changeEnd_44 : decode prog_3_method_6_code 44 = .ok (.aload_n 0, 1) := by decide +kernel
theorem d_Fo_changeEnd_45 : decode prog_3_method_6_code 45 = .ok (.iload_n 1, 1) := by decide +kernel
theorem d_Fo_changeEnd_46 : decode prog_3_method_6_code 46 = .ok (.iconst 5, 1) := by decide +kernel
theorem d_Fo_changeEnd_47 : decode prog_3_method_6_code 47 = .ok (.iadd, 1) := by decide +kernel
theorem d_Fo_changeEnd_48 : decode prog_3_method_6_code 48 = .ok (.iload_n 2, 1) := by decide +kernel
theorem d_Fo_changeEnd_49 : decode prog_3_method_6_code 49 = .ok (.iconst 1, 1) := by decide +kernel
theorem d_Fo_changeEnd_50 : decode prog_3_method_6_code 50 = .ok (.invokevirtual 61, 3) := by decide +kernel
theorem d_Fo_changeEnd_53 : decode prog_3_method_6_code 53 = .ok (.ireturn, 1) := by decide +kernel
theorem d_Fo_changeEnd_54 : decode prog_3_method_6_code 54 = .ok (.aload_n 0, 1) := by decide +kernel
theorem d_Fo_changeEnd_55 : decode prog_3_method_6_code 55 = .ok (.iload_n 1, 1) := by decide +kernel
theorem d_Fo_changeEnd_56 : decode prog_3_method_6_code 56 = .ok (.iload_n 2, 1) := by decide +kernel
theorem d_Fo_changeEnd_57 : decode prog_3_method_6_code 57 = .ok (.invokevirtual 65, 3) := by decide +kernel
theorem d_Fo_changeEnd_60 : decode prog_3_method_6_code 60 = .ok (.ireturn, 1) := by decide +kernel
theorem d_Fo_changeEnd_61 : decode prog_3_method_6_code 61 = .ok (.aload_n 0, 1) := by decide +kernel
theorem d_Fo_changeEnd_62 : decode prog_3_method_6_code 62 = .ok (.iload_n 1, 1) := by decide +kernel
theorem d_Fo_changeEnd_63 : decode prog_3_method_6_code 63 = .ok (.iload_n 2, 1) := by decide +kernel
theorem d_Fo_changeEnd_64 : decode prog_3_method_6_code 64 = .ok (.invokevirtual 68, 3) := by decide +kernel
theorem d_Fo_changeEnd_67 : decode prog_3_method_6_code 67 = .ok (.ireturn, 1) := by decide +kernel
theorem d_Fo_changeEnd_68 : decode prog_3_method_6_code 68 = .ok (.iload_n 1, 1) := by decide +kernel
theorem d_Fo_changeEnd_69 : decode prog_3_method_6_code 69 = .ok (.bipush 7, 2) := by decide +kernel
theorem d_Fo_changeEnd_71 : decode prog_3_method_6_code 71 = .ok (.iadd, 1) := by decide +kernel
theorem d_Fo_changeEnd_72 : decode prog_3_method_6_code 72 = .ok (.iload_n 2, 1) := by decide +kernel
theorem d_Fo_changeEnd_73 : decode prog_3_method_6_code 73 = .ok (.if_icmp .gt 10, 3) := by decide +kernel
theorem d_Fo_changeEnd_76 : decode prog_3_method_6_code 76 = .ok (.iload_n 1, 1) := by decide +kernel
theorem d_Fo_changeEnd_77 : decode prog_3_method_6_code 77 = .ok (.bipush 7, 2) := by decide +kernel
theorem d_Fo_changeEnd_79 : decode prog_3_method_6_code 79 = .ok (.iadd, 1) := by decide +kernel
theorem d_Fo_changeEnd_80 : decode prog_3_method_6_code 80 = .ok (.goto 4, 3) := by decide +kernel
theorem d_Fo_changeEnd_83 : decode prog_3_method_6_code 83 = .ok (.iconst (-1), 1) := by decide +kernel
theorem d_Fo_changeEnd_84 : decode prog_3_method_6_code 84 = .ok (.ireturn, 1) := by decide +kernel
theorem d_Fo_changeEnd_85 : decode prog_3_method_6_code 85 = .ok (.iload_n 1, 1) := by decide +kernel
theorem d_Fo_changeEnd_86 : decode prog_3_method_6_code 86 = .ok (.bipush 13, 2) := by decide +kernel
theorem d_Fo_changeEnd_88 : decode prog_3_method_6_code 88 = .ok (.iadd, 1) := by decide +kernel
theorem d_Fo_changeEnd_89 : decode prog_3_method_6_code 89 = .ok (.iload_n 2, 1) := by decide +kernel
theorem d_Fo_changeEnd_90 : decode prog_3_method_6_code 90 = .ok (.if_icmp .gt 10, 3) := by decide +kernel
theorem d_Fo_changeEnd_93 : decode prog_3_method_6_code 93 = .ok (.iload_n 1, 1) := by decide +kernel
theorem d_Fo_changeEnd_94 : decode prog_3_method_6_code 94 = .ok (.bipush 13, 2) := by decide +kernel
theorem d_Fo_changeEnd_96 : decode prog_3_method_6_code 96 = .ok (.iadd, 1) := by decide +kernel
theorem d_Fo_changeEnd_97 : decode prog_3_method_6_code 97 = .ok (.goto 4, 3) := by decide +kernel
theorem d_Fo_changeEnd_100 : decode prog_3_method_6_code 100 = .ok (.iconst (-1), 1) := by decide +kernel
theorem d_Fo_changeEnd_101 : decode prog_3_method_6_code 101 = .ok (.ireturn, 1) := by decide +kernel
theorem d_Fo_changeEnd_102 : decode prog_3_method_6_code 102 = .ok (.iconst (-1), 1) := by decide +kernel
theorem d_Fo_changeEnd_103 : decode prog_3_method_6_code 103 = .ok (.ireturn, 1) := by decide +kernel
theorem plR.le {f : Nat → Int32} {en a b : Nat} (h : plR f en a b) : a < b ∧ b ≤ en + 6 := by
  rcases h.2 with ⟨-, h2⟩ | ⟨-, h2⟩ <;> have := h.1 <;> omega
theorem lnR.le {f : Nat → Int32} {en a b : Nat} (h : lnR f en a b) : a < b ∧ b ≤ en := by
  obtain ⟨-, -, -, h1, -, h2⟩ := h
  omega
theorem nmR.le {f : Nat → Int32} {en a b : Nat} {le : Int32} (h : nmR f en le a b) : a < b ∧ b ≤ en := by
  obtain ⟨-, n, -, -, -, h1, -, h2⟩ := h
  omega
theorem lnsR.le {f : Nat → Int32} {en : Nat} : ∀ {n a b : Nat}, a ≤ en → lnsR f en n a b → a ≤ b ∧ b ≤ en
  | 0, _, _, h, h1 => by have : _ = _ := h1; omega
  | n + 1, _, _, _, ⟨q, h1, h2⟩ => by
    have := lnR.le h1
    have := lnsR.le (by omega) h2
    omega
theorem chR_0 {f : Nat → Int32} {en a b : Nat} (h : f a = 0) (z : chR f en a b) : nmR f en 1 (a + 5) b := by
  rcases z with ⟨z, r⟩ | ⟨z, r⟩ | ⟨z, r⟩ | ⟨z, r⟩ | ⟨z, r⟩ <;> first | exact r | (rw [h] at z; exact absurd z (by decide))
theorem chR_1 {f : Nat → Int32} {en a b : Nat} (h : f a = 1) (z : chR f en a b) : calR f en a b := by
  rcases z with ⟨z, r⟩ | ⟨z, r⟩ | ⟨z, r⟩ | ⟨z, r⟩ | ⟨z, r⟩ <;> first | exact r | (rw [h] at z; exact absurd z (by decide))
theorem chR_2 {f : Nat → Int32} {en a b : Nat} (h : f a = 2) (z : chR f en a b) : insR f en a b := by
  rcases z with ⟨z, r⟩ | ⟨z, r⟩ | ⟨z, r⟩ | ⟨z, r⟩ | ⟨z, r⟩ <;> first | exact r | (rw [h] at z; exact absurd z (by decide))
theorem chR_3 {f : Nat → Int32} {en a b : Nat} (h : f a = 3) (z : chR f en a b) : a + 7 ≤ en ∧ b = a + 7 := by
  rcases z with ⟨z, r⟩ | ⟨z, r⟩ | ⟨z, r⟩ | ⟨z, r⟩ | ⟨z, r⟩ <;> first | exact r | (rw [h] at z; exact absurd z (by decide))
theorem chR_4 {f : Nat → Int32} {en a b : Nat} (h : f a = 4) (z : chR f en a b) : a + 13 ≤ en ∧ b = a + 13 := by
  rcases z with ⟨z, r⟩ | ⟨z, r⟩ | ⟨z, r⟩ | ⟨z, r⟩ | ⟨z, r⟩ <;> first | exact r | (rw [h] at z; exact absurd z (by decide))
set_option maxHeartbeats 4000000 in
set_option maxRecDepth 100000 in
/-- behind a call -/
theorem m_Fo_callEnd (l : Launch) (dC : Nat → ClassId) (dI : Nat → Nat → Nat) (cI cB cL cZ cR : ClassId) (h sk b_y : Nat) (sk_from sk_firstDependency sk_firstChange sk_dependencies sk_hashes sk_byHash sk_leansOn sk_leantBy sk_changes sk_lines sk_patches : Value) (f : Nat → Int32) (en a : Nat) (sz : Nat) (he : en ≤ 290000) (ha : a < en) : Met l y_Fo_callEnd ws_Fo_callEnd ({ frames := 2, cells := 0, slots := 0, locals := 100 }) (xw_Pc dC dI [(cI, .int), (cB, .byte), (cL, .long), (cZ, .boolean), (cR, .object "PatchStore$Repository")] [.ref h, .int (nI a), .int (nI en)] [(h, .inr (2, [.ref sk])), (sk, .inr (9, [.ref b_y, sk_from, sk_firstDependency, sk_firstChange, sk_dependencies, sk_hashes, sk_byHash, sk_leansOn, sk_leantBy, sk_changes, sk_lines, sk_patches])), (b_y, .inl (cB, 290000, .inl f))] sz) (va_Qi (fun (r : Int32) (u : Nat) => (calR f en a u ∧ r = nI u) ∨ (r = -1 ∧ ∀ q, ¬ calR f en a q)) (fun _ t => xw_B dC dI [(cI, .int), (cB, .byte), (cL, .long), (cZ, .boolean), (cR, .object "PatchStore$Repository")] (va_A [(h, .inr (2, [.ref sk])), (sk, .inr (9, [.ref b_y, sk_from, sk_firstDependency, sk_firstChange, sk_dependencies, sk_hashes, sk_byHash, sk_leansOn, sk_leantBy, sk_changes, sk_lines, sk_patches])), (b_y, .inl (cB, 290000, .inl f))] sz) [(h, .inr (2, [.ref sk])), (sk, .inr (9, [.ref b_y, sk_from, sk_firstDependency, sk_firstChange, sk_dependencies, sk_hashes, sk_byHash, sk_leansOn, sk_leantBy, sk_changes, sk_lines, sk_patches])), (b_y, .inl (cB, 290000, .inl f))] t) (va_A [(h, .inr (2, [.ref sk])), (sk, .inr (9, [.ref b_y, sk_from, sk_firstDependency, sk_firstChange, sk_dependencies, sk_hashes, sk_byHash, sk_leansOn, sk_leantBy, sk_changes, sk_lines, sk_patches])), (b_y, .inl (cB, 290000, .inl f))] sz)) 0 0 (va_A [(h, .inr (2, [.ref sk])), (sk, .inr (9, [.ref b_y, sk_from, sk_firstDependency, sk_firstChange, sk_dependencies, sk_hashes, sk_byHash, sk_leansOn, sk_leantBy, sk_changes, sk_lines, sk_patches])), (b_y, .inl (cB, 290000, .inl f))] sz) := by
  refine Met.ofW (cc := prog_3_method_8_code) (maxL := 3) (ret := (Option.some Jvm.ClassFile.FieldType.int)) (by decide) rfl ?_
  intro p e s m args below meth c s₁ B hml hv
  obtain ⟨rfl, hsz, hP, hK, hD0⟩ := hv
  have hx := B.exec
  have hb := B.bytes
  have hr := B.returns
  have hts0 := atoms_spec (ws := ws_Fo_callEnd) B.pre
  have hts : ∀ w ∈ xg_1, w.before _ s = true := fun w h => hts0 w (List.mem_cons_of_mem _ h)
  have hown : s.vm.findClass "PatchStore$Form" = some m.cls := findClass_of_methodNamed B.named
  have hlocks := B.notSynchronized
  subst hsz
  have hD := hD0.self (sz := s.heap.size)
  generalize hAe : va_A [(h, .inr (2, [.ref sk])), (sk, .inr (9, [.ref b_y, sk_from, sk_firstDependency, sk_firstChange, sk_dependencies, sk_hashes, sk_byHash, sk_leansOn, sk_leantBy, sk_changes, sk_lines, sk_patches])), (b_y, .inl (cB, 290000, .inl f))] s.heap.size = A at hD ⊢
  have hA : ∀ q : Nat, s.heap.size ≤ q → A q := fun q h => by rw [← hAe]; exact Or.inr h
  have hS : va_S A s.heap s.heap [] := va_S.rf
  have hl := lv_entry ([.ref h, .int (nI a), .int (nI en)]) (n := 3) (Nat.le_of_ble_eq_true rfl)
  rw [lg_entry_eq]
  generalize (lg_sl ([.ref h, .int (nI a), .int (nI en)]) ++ List.replicate (3 - (lg_sl ([.ref h, .int (nI a), .int (nI en)])).length) Slot.unset).toArray = ls at hl ⊢
  have hl : lv_has ls 3 [(0, .ref h), (1, .int (nI a)), (2, .int (nI en))] := hl
  refine lv_iload_n hx hb d_Fo_callEnd_0 rfl (lv_at hl 1 rfl) ?_
  refine lv_bipush (v := 6) hx hb d_Fo_callEnd_1 (by decide) ?_
  refine lv_iadd hx hb d_Fo_callEnd_3 ?_
  refine lv_topi (fun x_1 ex_1 => ?_)
  obtain rfl : x_1 = nI (a + 6) := by rw [ex_1]; first | done | (exact nI_add _ _)
  refine lv_iload_n hx hb d_Fo_callEnd_4 rfl (lv_at hl 2 rfl) ?_
  refine lv_icmp_gt (tgt := 22) hx hb d_Fo_callEnd_5 (by decide) (fun c_5 => ?_) (fun c_5 => ?_)
  · have n_5 : en < (a + 6) := (nI_ltI (a := en) (b := (a + 6)) (by omega) (by omega)).mp c_5
    have hno : ∀ q, ¬ calR f en a q := fun q z => by
      have := z.1
      omega
    refine lv_iconst (v := (-1)) hx hb d_Fo_callEnd_22 (by decide) ?_
    exact W.iret (v := (-1)) hx hb hr (fun t ht hW => ⟨⟨_, 0, rfl, Or.inr ⟨rfl, hno⟩, by rw [ht]; exact hP, va_K.moved hW.alike hK, hD⟩, hS.F ht⟩) hS.2.2 d_Fo_callEnd_23
  · have n_5 : (a + 6) ≤ en := Nat.le_of_not_lt (fun z => c_5 ((nI_ltI (a := en) (b := (a + 6)) (by omega) (by omega)).mpr z))
    refine lv_aload_n hx hb d_Fo_callEnd_8 rfl (lv_at hl 0 rfl) ?_
    refine va_get (D := (dC, dI)) (ci := 2) (v := .ref sk) (C := R_Fo) (T := F_Fo) (N := 1) hx hb hts i_Fo hown hK hP 0 rfl rfl 0 (by decide) (hts _ gw_280) (fun _ h9 => h9) rfl d_Fo_callEnd_9 ?_
    refine va_get (D := (dC, dI)) (ci := 9) (v := .ref b_y) (C := R_St) (T := F_St) (N := 12) hx hb hts i_St hown hK hP 1 rfl rfl 0 (by decide) (hts _ gw_186) (fun _ h9 => h9) rfl d_Fo_callEnd_12 ?_
    refine lv_iload_n hx hb d_Fo_callEnd_15 rfl (lv_at hl 1 rfl) ?_
    refine lv_iconst (v := 5) hx hb d_Fo_callEnd_16 (by decide) ?_
    refine lv_iadd hx hb d_Fo_callEnd_17 ?_
    refine lv_topi (fun x_2 ex_2 => ?_)
    obtain rfl : x_2 = nI (a + 5) := by rw [ex_2]; first | done | (exact nI_add _ _)
    refine va_bald hx hb hK hP 2 1 rfl rfl (vp_in_nI (by omega) (by omega)) d_Fo_callEnd_18 ?_
    rw [show (nI (a + 5)).toNatClampNeg = (a + 5) from nI_clamp (by omega)]
    refine lv_if_ne (tgt := 24) hx hb d_Fo_callEnd_19 (by decide) (fun c_19 => ?_) (fun c_19 => ?_)
    · have hb8 := b8_lt (f (a + 5))
      refine lv_aload_n hx hb d_Fo_callEnd_24 rfl (lv_at hl 0 rfl) ?_
      refine lv_iload_n hx hb d_Fo_callEnd_25 rfl (lv_at hl 1 rfl) ?_
      refine lv_bipush (v := 6) hx hb d_Fo_callEnd_26 (by decide) ?_
      refine lv_iadd hx hb d_Fo_callEnd_28 ?_
      refine lv_topi (fun x_3 ex_3 => ?_)
      obtain rfl : x_3 = nI (a + 6) := by rw [ex_3]; first | done | (exact nI_add _ _)
      refine lv_iconst (v := 4) hx hb d_Fo_callEnd_29 (by decide) ?_
      refine lv_aload_n hx hb d_Fo_callEnd_30 rfl (lv_at hl 0 rfl) ?_
      refine va_get (D := (dC, dI)) (ci := 2) (v := .ref sk) (C := R_Fo) (T := F_Fo) (N := 1) hx hb hts i_Fo hown hK hP 0 rfl rfl 0 (by decide) (hts _ gw_280) (fun _ h9 => h9) rfl d_Fo_callEnd_31 ?_
      refine va_get (D := (dC, dI)) (ci := 9) (v := .ref b_y) (C := R_St) (T := F_St) (N := 12) hx hb hts i_St hown hK hP 1 rfl rfl 0 (by decide) (hts _ gw_186) (fun _ h9 => h9) rfl d_Fo_callEnd_34 ?_
      refine lv_iload_n hx hb d_Fo_callEnd_37 rfl (lv_at hl 1 rfl) ?_
      refine lv_iconst (v := 5) hx hb d_Fo_callEnd_38 (by decide) ?_
      refine lv_iadd hx hb d_Fo_callEnd_39 ?_
      refine lv_topi (fun x_4 ex_4 => ?_)
      obtain rfl : x_4 = nI (a + 5) := by rw [ex_4]; first | done | (exact nI_add _ _)
      refine va_bald hx hb hK hP 2 1 rfl rfl (vp_in_nI (by omega) (by omega)) d_Fo_callEnd_40 ?_
      rw [show (nI (a + 5)).toNatClampNeg = (a + 5) from nI_clamp (by omega)]
      refine lv_sipush (v := 255) hx hb d_Fo_callEnd_41 (by decide) ?_
      refine lv_iand hx hb d_Fo_callEnd_44 ?_
      refine lv_topi (fun x_5 ex_5 => ?_)
      obtain rfl : x_5 = nI (b8 (f (a + 5))) := by rw [ex_5]; first | done | (exact b8_eq _)
      refine lv_imul hx hb d_Fo_callEnd_45 ?_
      refine lv_topi (fun x_6 ex_6 => ?_)
      obtain rfl : x_6 = nI (4 * (b8 (f (a + 5)))) := by rw [ex_6]; first | done | (exact nI_mul _ _)
      refine lv_iadd hx hb d_Fo_callEnd_46 ?_
      refine lv_topi (fun x_7 ex_7 => ?_)
      obtain rfl : x_7 = nI (a + 6 + (4 * (b8 (f (a + 5))))) := by rw [ex_7]; first | done | (exact nI_add _ _)
      refine lv_iload_n hx hb d_Fo_callEnd_47 rfl (lv_at hl 2 rfl) ?_
      refine lv_iconst (v := 0) hx hb d_Fo_callEnd_48 (by decide) ?_
      have hPc := hP.sub (ws' := [(h, .inr (2, [.ref sk])), (sk, .inr (9, [.ref b_y, sk_from, sk_firstDependency, sk_firstChange, sk_dependencies, sk_hashes, sk_byHash, sk_leansOn, sk_leantBy, sk_changes, sk_lines, sk_patches])), (b_y, .inl (cB, 290000, .inl f))]) [0, 1, 2] rfl
      have hDc := hD.sub (ws' := [(h, .inr (2, [.ref sk])), (sk, .inr (9, [.ref b_y, sk_from, sk_firstDependency, sk_firstChange, sk_dependencies, sk_hashes, sk_byHash, sk_leansOn, sk_leantBy, sk_changes, sk_lines, sk_patches])), (b_y, .inl (cB, 290000, .inl f))]) [0, 1, 2] (by decide) rfl
      have hFc := va_free (wc := [(h, .inr (2, [.ref sk])), (sk, .inr (9, [.ref b_y, sk_from, sk_firstDependency, sk_firstChange, sk_dependencies, sk_hashes, sk_byHash, sk_leansOn, sk_leantBy, sk_changes, sk_lines, sk_patches])), (b_y, .inl (cB, 290000, .inl f))]) hD hS hA [0, 1, 2] rfl
      refine va_calli (va_runV (As := [.int (nI (a + 6 + (4 * (b8 (f (a + 5)))))), .int (nI en), .int 0]) (rest := []) ⟨hx, hb, hml, hown, hts⟩ (m_Fo_nameEnd l dC dI cI cB cL cZ cR h sk b_y sk_from sk_firstDependency sk_firstChange sk_dependencies sk_hashes sk_byHash sk_leansOn sk_leantBy sk_changes sk_lines sk_patches f en (a + 6 + (4 * (b8 (f (a + 5))))) 0 s.heap.size he (by omega) (by decide)) (cwV 3 hts (xg_V gw_790 gw_792 (xg_p 9 (q := (⟨"PatchStore$Form", "nameEnd", "(III)I"⟩, 1)) (by decide +kernel)) gw_7 gw_793) rfl rfl rfl (by decide +kernel) ⟨Nat.le_of_ble_eq_true rfl, Nat.le_of_ble_eq_true rfl⟩) ⟨xw_blind, va_recv hK hPc (ci := 2) (q0 := 0) rfl rfl, fun U hU hW => ⟨rfl, by rw [hU], by rw [hU]; exact hPc, va_K.moved hW.alike hK, hDc.weaken (fun _ _ _ _ => trivial)⟩⟩ rfl rfl hl.1 rfl (lv_room (Nat.le_of_ble_eq_true rfl)) d_Fo_callEnd_49 ⟨Nat.le_of_ble_eq_true rfl, Nat.le_of_ble_eq_true rfl⟩) hS (fun q _ h => hFc q h) hFc (fun r9 q0 t H1 locs ht hvm hw hB hz1 hk1 hS => ?_)
      obtain ⟨hP1, hK1, hD1⟩ := hB
      rw [ht] at hP1
      obtain ⟨hP, hD⟩ := va_join (wr := []) (w1 := [(h, .inr (2, [.ref sk])), (sk, .inr (9, [.ref b_y, sk_from, sk_firstDependency, sk_firstChange, sk_dependencies, sk_hashes, sk_byHash, sk_leansOn, sk_leantBy, sk_changes, sk_lines, sk_patches])), (b_y, .inl (cB, 290000, .inl f))]) hP hD [0, 1, 2] [] rfl rfl (by decide) (by decide) hk1 hFc hP1 hD1
      generalize H1 = H at hP hS ⊢
      have hP : va_P (dC, dI) classes [(h, .inr (2, [.ref sk])), (sk, .inr (9, [.ref b_y, sk_from, sk_firstDependency, sk_firstChange, sk_dependencies, sk_hashes, sk_byHash, sk_leansOn, sk_leantBy, sk_changes, sk_lines, sk_patches])), (b_y, .inl (cB, 290000, .inl f))] H := hP
      have hD : va_D A [(h, .inr (2, [.ref sk])), (sk, .inr (9, [.ref b_y, sk_from, sk_firstDependency, sk_firstChange, sk_dependencies, sk_hashes, sk_byHash, sk_leansOn, sk_leantBy, sk_changes, sk_lines, sk_patches])), (b_y, .inl (cB, 290000, .inl f))] := hD
      rcases hw with ⟨hR, rfl⟩ | ⟨rfl, hR⟩
      · have hP : va_P (dC, dI) classes [(h, .inr (2, [.ref sk])), (sk, .inr (9, [.ref b_y, sk_from, sk_firstDependency, sk_firstChange, sk_dependencies, sk_hashes, sk_byHash, sk_leansOn, sk_leantBy, sk_changes, sk_lines, sk_patches])), (b_y, .inl (cB, 290000, .inl f))] H := hP
        have hD : va_D A [(h, .inr (2, [.ref sk])), (sk, .inr (9, [.ref b_y, sk_from, sk_firstDependency, sk_firstChange, sk_dependencies, sk_hashes, sk_byHash, sk_leansOn, sk_leantBy, sk_changes, sk_lines, sk_patches])), (b_y, .inl (cB, 290000, .inl f))] := hD
        exact W.iret (v := nI q0) hx hb hr (fun t ht hW => ⟨⟨_, q0, rfl, Or.inl ⟨⟨n_5, c_19, hR⟩, rfl⟩, by rw [ht]; exact hP, va_K.moved hW.alike hK, hD⟩, hS.F ht⟩) hS.2.2 d_Fo_callEnd_52
      · have hP : va_P (dC, dI) classes [(h, .inr (2, [.ref sk])), (sk, .inr (9, [.ref b_y, sk_from, sk_firstDependency, sk_firstChange, sk_dependencies, sk_hashes, sk_byHash, sk_leansOn, sk_leantBy, sk_changes, sk_lines, sk_patches])), (b_y, .inl (cB, 290000, .inl f))] H := hP
        have hD : va_D A [(h, .inr (2, [.ref sk])), (sk, .inr (9, [.ref b_y, sk_from, sk_firstDependency, sk_firstChange, sk_dependencies, sk_hashes, sk_byHash, sk_leansOn, sk_leantBy, sk_changes, sk_lines, sk_patches])), (b_y, .inl (cB, 290000, .inl f))] := hD
        exact W.iret (v := (-1)) hx hb hr (fun t ht hW => ⟨⟨_, 0, rfl, Or.inr ⟨rfl, fun q z => hR q z.2.2⟩, by rw [ht]; exact hP, va_K.moved hW.alike hK, hD⟩, hS.F ht⟩) hS.2.2 d_Fo_callEnd_52
    · have hno : ∀ q, ¬ calR f en a q := fun q z => by
        have := z.2.1
        exact this c_19
      refine lv_iconst (v := (-1)) hx hb d_Fo_callEnd_22 (by decide) ?_
      exact W.iret (v := (-1)) hx hb hr (fun t ht hW => ⟨⟨_, 0, rfl, Or.inr ⟨rfl, hno⟩, by rw [ht]; exact hP, va_K.moved hW.alike hK, hD⟩, hS.F ht⟩) hS.2.2 d_Fo_callEnd_23
set_option maxHeartbeats 4000000 in
set_option maxRecDepth 100000 in
/-- behind an up or down -/
theorem m_Fo_placeEnd (l : Launch) (dC : Nat → ClassId) (dI : Nat → Nat → Nat) (cI cB cL cZ cR : ClassId) (h sk b_y : Nat) (sk_from sk_firstDependency sk_firstChange sk_dependencies sk_hashes sk_byHash sk_leansOn sk_leantBy sk_changes sk_lines sk_patches : Value) (f : Nat → Int32) (en a : Nat) (sz : Nat) (he : en ≤ 290000) (ha : a < 400000) : Met l y_Fo_placeEnd ws_Fo_placeEnd ({ frames := 0, cells := 0, slots := 0, locals := 0 }) (xw_Pc dC dI [(cI, .int), (cB, .byte), (cL, .long), (cZ, .boolean), (cR, .object "PatchStore$Repository")] [.ref h, .int (nI a), .int (nI en)] [(h, .inr (2, [.ref sk])), (sk, .inr (9, [.ref b_y, sk_from, sk_firstDependency, sk_firstChange, sk_dependencies, sk_hashes, sk_byHash, sk_leansOn, sk_leantBy, sk_changes, sk_lines, sk_patches])), (b_y, .inl (cB, 290000, .inl f))] sz) (va_Qi (fun (r : Int32) (u : Nat) => (plR f en a u ∧ r = nI u) ∨ (r = -1 ∧ ∀ q, ¬ plR f en a q)) (fun _ t => xw_B dC dI [(cI, .int), (cB, .byte), (cL, .long), (cZ, .boolean), (cR, .object "PatchStore$Repository")] (va_A [(h, .inr (2, [.ref sk])), (sk, .inr (9, [.ref b_y, sk_from, sk_firstDependency, sk_firstChange, sk_dependencies, sk_hashes, sk_byHash, sk_leansOn, sk_leantBy, sk_changes, sk_lines, sk_patches])), (b_y, .inl (cB, 290000, .inl f))] sz) [(h, .inr (2, [.ref sk])), (sk, .inr (9, [.ref b_y, sk_from, sk_firstDependency, sk_firstChange, sk_dependencies, sk_hashes, sk_byHash, sk_leansOn, sk_leantBy, sk_changes, sk_lines, sk_patches])), (b_y, .inl (cB, 290000, .inl f))] t) (va_A [(h, .inr (2, [.ref sk])), (sk, .inr (9, [.ref b_y, sk_from, sk_firstDependency, sk_firstChange, sk_dependencies, sk_hashes, sk_byHash, sk_leansOn, sk_leantBy, sk_changes, sk_lines, sk_patches])), (b_y, .inl (cB, 290000, .inl f))] sz)) 0 0 (va_A [(h, .inr (2, [.ref sk])), (sk, .inr (9, [.ref b_y, sk_from, sk_firstDependency, sk_firstChange, sk_dependencies, sk_hashes, sk_byHash, sk_leansOn, sk_leantBy, sk_changes, sk_lines, sk_patches])), (b_y, .inl (cB, 290000, .inl f))] sz) := by
  refine Met.ofW (cc := prog_3_method_10_code) (maxL := 3) (ret := (Option.some Jvm.ClassFile.FieldType.int)) (by decide) rfl ?_
  intro p e s m args below meth c s₁ B hml hv
  obtain ⟨rfl, hsz, hP, hK, hD0⟩ := hv
  have hx := B.exec
  have hb := B.bytes
  have hr := B.returns
  have hts0 := atoms_spec (ws := ws_Fo_placeEnd) B.pre
  have hts : ∀ w ∈ xg_1, w.before _ s = true := fun w h => hts0 w (List.mem_cons_of_mem _ h)
  have hown : s.vm.findClass "PatchStore$Form" = some m.cls := findClass_of_methodNamed B.named
  have hlocks := B.notSynchronized
  subst hsz
  have hD := hD0.self (sz := s.heap.size)
  generalize hAe : va_A [(h, .inr (2, [.ref sk])), (sk, .inr (9, [.ref b_y, sk_from, sk_firstDependency, sk_firstChange, sk_dependencies, sk_hashes, sk_byHash, sk_leansOn, sk_leantBy, sk_changes, sk_lines, sk_patches])), (b_y, .inl (cB, 290000, .inl f))] s.heap.size = A at hD ⊢
  have hA : ∀ q : Nat, s.heap.size ≤ q → A q := fun q h => by rw [← hAe]; exact Or.inr h
  have hS : va_S A s.heap s.heap [] := va_S.rf
  have hl := lv_entry ([.ref h, .int (nI a), .int (nI en)]) (n := 3) (Nat.le_of_ble_eq_true rfl)
  rw [lg_entry_eq]
  generalize (lg_sl ([.ref h, .int (nI a), .int (nI en)]) ++ List.replicate (3 - (lg_sl ([.ref h, .int (nI a), .int (nI en)])).length) Slot.unset).toArray = ls at hl ⊢
  have hl : lv_has ls 3 [(0, .ref h), (1, .int (nI a)), (2, .int (nI en))] := hl
  refine lv_iload_n hx hb d_Fo_placeEnd_0 rfl (lv_at hl 1 rfl) ?_
  refine lv_if_lt (tgt := 9) hx hb d_Fo_placeEnd_1 (by decide) (fun c_1 => absurd c_1 (nI_pos (by omega))) (fun _ => ?_)
  refine lv_iload_n hx hb d_Fo_placeEnd_4 rfl (lv_at hl 1 rfl) ?_
  refine lv_iload_n hx hb d_Fo_placeEnd_5 rfl (lv_at hl 2 rfl) ?_
  refine lv_icmp_lt (tgt := 11) hx hb d_Fo_placeEnd_6 (by decide) (fun c_6 => ?_) (fun c_6 => ?_)
  · have n_6 : a < en := (nI_ltI (a := a) (b := en) (by omega) (by omega)).mp c_6
    refine lv_aload_n hx hb d_Fo_placeEnd_11 rfl (lv_at hl 0 rfl) ?_
    refine va_get (D := (dC, dI)) (ci := 2) (v := .ref sk) (C := R_Fo) (T := F_Fo) (N := 1) hx hb hts i_Fo hown hK hP 0 rfl rfl 0 (by decide) (hts _ gw_280) (fun _ h9 => h9) rfl d_Fo_placeEnd_12 ?_
    refine va_get (D := (dC, dI)) (ci := 9) (v := .ref b_y) (C := R_St) (T := F_St) (N := 12) hx hb hts i_St hown hK hP 1 rfl rfl 0 (by decide) (hts _ gw_186) (fun _ h9 => h9) rfl d_Fo_placeEnd_15 ?_
    refine lv_iload_n hx hb d_Fo_placeEnd_18 rfl (lv_at hl 1 rfl) ?_
    refine va_bald hx hb hK hP 2 1 rfl rfl (vp_in_nI (by omega) (by omega)) d_Fo_placeEnd_19 ?_
    rw [show (nI a).toNatClampNeg = a from nI_clamp (by omega)]
    refine lv_if_ne (tgt := 27) hx hb d_Fo_placeEnd_20 (by decide) (fun c_20 => ?_) (fun c_20 => ?_)
    · refine lv_aload_n hx hb d_Fo_placeEnd_27 rfl (lv_at hl 0 rfl) ?_
      refine va_get (D := (dC, dI)) (ci := 2) (v := .ref sk) (C := R_Fo) (T := F_Fo) (N := 1) hx hb hts i_Fo hown hK hP 0 rfl rfl 0 (by decide) (hts _ gw_280) (fun _ h9 => h9) rfl d_Fo_placeEnd_28 ?_
      refine va_get (D := (dC, dI)) (ci := 9) (v := .ref b_y) (C := R_St) (T := F_St) (N := 12) hx hb hts i_St hown hK hP 1 rfl rfl 0 (by decide) (hts _ gw_186) (fun _ h9 => h9) rfl d_Fo_placeEnd_31 ?_
      refine lv_iload_n hx hb d_Fo_placeEnd_34 rfl (lv_at hl 1 rfl) ?_
      refine va_bald hx hb hK hP 2 1 rfl rfl (vp_in_nI (by omega) (by omega)) d_Fo_placeEnd_35 ?_
      rw [show (nI a).toNatClampNeg = a from nI_clamp (by omega)]
      refine lv_iconst (v := 1) hx hb d_Fo_placeEnd_36 (by decide) ?_
      refine lv_icmp_ne (tgt := 47) hx hb d_Fo_placeEnd_37 (by decide) (fun c_37 => ?_) (fun c_37 => ?_)
      · have hno : ∀ q, ¬ plR f en a q := fun q z => by
          rcases z.2 with z | z
          · exact c_20 z.1
          · exact c_37 z.1
        refine lv_iconst (v := (-1)) hx hb d_Fo_placeEnd_47 (by decide) ?_
        exact W.iret (v := (-1)) hx hb hr (fun t ht hW => ⟨⟨_, 0, rfl, Or.inr ⟨rfl, hno⟩, by rw [ht]; exact hP, va_K.moved hW.alike hK, hD⟩, hS.F ht⟩) hS.2.2 d_Fo_placeEnd_48
      · refine lv_iload_n hx hb d_Fo_placeEnd_40 rfl (lv_at hl 1 rfl) ?_
        refine lv_bipush (v := 7) hx hb d_Fo_placeEnd_41 (by decide) ?_
        refine lv_iadd hx hb d_Fo_placeEnd_43 ?_
        refine lv_topi (fun x_1 ex_1 => ?_)
        obtain rfl : x_1 = nI (a + 7) := by rw [ex_1]; first | done | (exact nI_add _ _)
        refine lv_goto (tgt := 48) hx hb d_Fo_placeEnd_44 (by decide) ?_
        exact W.iret (v := nI (a + 7)) hx hb hr (fun t ht hW => ⟨⟨_, (a + 7), rfl, Or.inl ⟨⟨n_6, Or.inr ⟨c_37, rfl⟩⟩, rfl⟩, by rw [ht]; exact hP, va_K.moved hW.alike hK, hD⟩, hS.F ht⟩) hS.2.2 d_Fo_placeEnd_48
    · refine lv_iload_n hx hb d_Fo_placeEnd_23 rfl (lv_at hl 1 rfl) ?_
      refine lv_iconst (v := 1) hx hb d_Fo_placeEnd_24 (by decide) ?_
      refine lv_iadd hx hb d_Fo_placeEnd_25 ?_
      refine lv_topi (fun x_2 ex_2 => ?_)
      obtain rfl : x_2 = nI (a + 1) := by rw [ex_2]; first | done | (exact nI_add _ _)
      exact W.iret (v := nI (a + 1)) hx hb hr (fun t ht hW => ⟨⟨_, (a + 1), rfl, Or.inl ⟨⟨n_6, Or.inl ⟨c_20, rfl⟩⟩, rfl⟩, by rw [ht]; exact hP, va_K.moved hW.alike hK, hD⟩, hS.F ht⟩) hS.2.2 d_Fo_placeEnd_26
  · have n_6 : en ≤ a := Nat.le_of_not_lt (fun z => c_6 ((nI_ltI (a := a) (b := en) (by omega) (by omega)).mpr z))
    have hno : ∀ q, ¬ plR f en a q := fun q z => by
      have := z.1
      omega
    refine lv_iconst (v := (-1)) hx hb d_Fo_placeEnd_9 (by decide) ?_
    exact W.iret (v := (-1)) hx hb hr (fun t ht hW => ⟨⟨_, 0, rfl, Or.inr ⟨rfl, hno⟩, by rw [ht]; exact hP, va_K.moved hW.alike hK, hD⟩, hS.F ht⟩) hS.2.2 d_Fo_placeEnd_10
set_option maxHeartbeats 4000000 in
set_option maxRecDepth 100000 in
/-- behind nothing -/
theorem m_Fo_placeEndN (l : Launch) (dC : Nat → ClassId) (dI : Nat → Nat → Nat) (cI cB cL cZ cR : ClassId) (h sk b_y : Nat) (sk_from sk_firstDependency sk_firstChange sk_dependencies sk_hashes sk_byHash sk_leansOn sk_leantBy sk_changes sk_lines sk_patches : Value) (f : Nat → Int32) (en : Nat) (sz : Nat) : Met l y_Fo_placeEnd ws_Fo_placeEnd ({ frames := 0, cells := 0, slots := 0, locals := 0 }) (xw_Pc dC dI [(cI, .int), (cB, .byte), (cL, .long), (cZ, .boolean), (cR, .object "PatchStore$Repository")] [.ref h, .int (-1), .int (nI en)] [(h, .inr (2, [.ref sk])), (sk, .inr (9, [.ref b_y, sk_from, sk_firstDependency, sk_firstChange, sk_dependencies, sk_hashes, sk_byHash, sk_leansOn, sk_leantBy, sk_changes, sk_lines, sk_patches])), (b_y, .inl (cB, 290000, .inl f))] sz) (va_Qi (fun (r : Int32) (_ : Unit) => r = -1) (fun _ t => xw_B dC dI [(cI, .int), (cB, .byte), (cL, .long), (cZ, .boolean), (cR, .object "PatchStore$Repository")] (va_A [(h, .inr (2, [.ref sk])), (sk, .inr (9, [.ref b_y, sk_from, sk_firstDependency, sk_firstChange, sk_dependencies, sk_hashes, sk_byHash, sk_leansOn, sk_leantBy, sk_changes, sk_lines, sk_patches])), (b_y, .inl (cB, 290000, .inl f))] sz) [(h, .inr (2, [.ref sk])), (sk, .inr (9, [.ref b_y, sk_from, sk_firstDependency, sk_firstChange, sk_dependencies, sk_hashes, sk_byHash, sk_leansOn, sk_leantBy, sk_changes, sk_lines, sk_patches])), (b_y, .inl (cB, 290000, .inl f))] t) (va_A [(h, .inr (2, [.ref sk])), (sk, .inr (9, [.ref b_y, sk_from, sk_firstDependency, sk_firstChange, sk_dependencies, sk_hashes, sk_byHash, sk_leansOn, sk_leantBy, sk_changes, sk_lines, sk_patches])), (b_y, .inl (cB, 290000, .inl f))] sz)) 0 0 (va_A [(h, .inr (2, [.ref sk])), (sk, .inr (9, [.ref b_y, sk_from, sk_firstDependency, sk_firstChange, sk_dependencies, sk_hashes, sk_byHash, sk_leansOn, sk_leantBy, sk_changes, sk_lines, sk_patches])), (b_y, .inl (cB, 290000, .inl f))] sz) := by
  refine Met.ofW (cc := prog_3_method_10_code) (maxL := 3) (ret := (Option.some Jvm.ClassFile.FieldType.int)) (by decide) rfl ?_
  intro p e s m args below meth c s₁ B hml hv
  obtain ⟨rfl, hsz, hP, hK, hD0⟩ := hv
  have hx := B.exec
  have hb := B.bytes
  have hr := B.returns
  have hts0 := atoms_spec (ws := ws_Fo_placeEnd) B.pre
  have hts : ∀ w ∈ xg_1, w.before _ s = true := fun w h => hts0 w (List.mem_cons_of_mem _ h)
  have hown : s.vm.findClass "PatchStore$Form" = some m.cls := findClass_of_methodNamed B.named
  have hlocks := B.notSynchronized
  subst hsz
  have hD := hD0.self (sz := s.heap.size)
  generalize hAe : va_A [(h, .inr (2, [.ref sk])), (sk, .inr (9, [.ref b_y, sk_from, sk_firstDependency, sk_firstChange, sk_dependencies, sk_hashes, sk_byHash, sk_leansOn, sk_leantBy, sk_changes, sk_lines, sk_patches])), (b_y, .inl (cB, 290000, .inl f))] s.heap.size = A at hD ⊢
  have hA : ∀ q : Nat, s.heap.size ≤ q → A q := fun q h => by rw [← hAe]; exact Or.inr h
  have hS : va_S A s.heap s.heap [] := va_S.rf
  have hl := lv_entry ([.ref h, .int (-1), .int (nI en)]) (n := 3) (Nat.le_of_ble_eq_true rfl)
  rw [lg_entry_eq]
  generalize (lg_sl ([.ref h, .int (-1), .int (nI en)]) ++ List.replicate (3 - (lg_sl ([.ref h, .int (-1), .int (nI en)])).length) Slot.unset).toArray = ls at hl ⊢
  have hl : lv_has ls 3 [(0, .ref h), (1, .int (-1)), (2, .int (nI en))] := hl
  refine lv_iload_n hx hb d_Fo_placeEnd_0 rfl (lv_at hl 1 rfl) ?_
  refine lv_if_lt (tgt := 9) hx hb d_Fo_placeEnd_1 (by decide) (fun _ => ?_) (fun c_1 => absurd (by decide) c_1)
  refine lv_iconst (v := (-1)) hx hb d_Fo_placeEnd_9 (by decide) ?_
  exact W.iret (v := (-1)) hx hb hr (fun t ht hW => ⟨⟨_, (), rfl, rfl, by rw [ht]; exact hP, va_K.moved hW.alike hK, hD⟩, hS.F ht⟩) hS.2.2 d_Fo_placeEnd_10
set_option maxHeartbeats 4000000 in
set_option maxRecDepth 100000 in
/-- behind a line -/
theorem m_Fo_lineEnd (l : Launch) (dC : Nat → ClassId) (dI : Nat → Nat → Nat) (cI cB cL cZ cR : ClassId) (h sk b_y : Nat) (sk_from sk_firstDependency sk_firstChange sk_dependencies sk_hashes sk_byHash sk_leansOn sk_leantBy sk_changes sk_lines sk_patches : Value) (f : Nat → Int32) (en a : Nat) (sz : Nat) (he : en ≤ 290000) (ha : a < 400000) : Met l y_Fo_lineEnd ws_Fo_lineEnd ({ frames := 1, cells := 0, slots := 0, locals := 60 }) (xw_Pc dC dI [(cI, .int), (cB, .byte), (cL, .long), (cZ, .boolean), (cR, .object "PatchStore$Repository")] [.ref h, .int (nI a), .int (nI en)] [(h, .inr (2, [.ref sk])), (sk, .inr (9, [.ref b_y, sk_from, sk_firstDependency, sk_firstChange, sk_dependencies, sk_hashes, sk_byHash, sk_leansOn, sk_leantBy, sk_changes, sk_lines, sk_patches])), (b_y, .inl (cB, 290000, .inl f))] sz) (va_Qi (fun (r : Int32) (u : Nat) => (lnR f en a u ∧ r = nI u) ∨ (r = -1 ∧ ∀ q, ¬ lnR f en a q)) (fun _ t => xw_B dC dI [(cI, .int), (cB, .byte), (cL, .long), (cZ, .boolean), (cR, .object "PatchStore$Repository")] (va_A [(h, .inr (2, [.ref sk])), (sk, .inr (9, [.ref b_y, sk_from, sk_firstDependency, sk_firstChange, sk_dependencies, sk_hashes, sk_byHash, sk_leansOn, sk_leantBy, sk_changes, sk_lines, sk_patches])), (b_y, .inl (cB, 290000, .inl f))] sz) [(h, .inr (2, [.ref sk])), (sk, .inr (9, [.ref b_y, sk_from, sk_firstDependency, sk_firstChange, sk_dependencies, sk_hashes, sk_byHash, sk_leansOn, sk_leantBy, sk_changes, sk_lines, sk_patches])), (b_y, .inl (cB, 290000, .inl f))] t) (va_A [(h, .inr (2, [.ref sk])), (sk, .inr (9, [.ref b_y, sk_from, sk_firstDependency, sk_firstChange, sk_dependencies, sk_hashes, sk_byHash, sk_leansOn, sk_leantBy, sk_changes, sk_lines, sk_patches])), (b_y, .inl (cB, 290000, .inl f))] sz)) 0 0 (va_A [(h, .inr (2, [.ref sk])), (sk, .inr (9, [.ref b_y, sk_from, sk_firstDependency, sk_firstChange, sk_dependencies, sk_hashes, sk_byHash, sk_leansOn, sk_leantBy, sk_changes, sk_lines, sk_patches])), (b_y, .inl (cB, 290000, .inl f))] sz) := by
  refine Met.ofW (cc := prog_3_method_11_code) (maxL := 6) (ret := (Option.some Jvm.ClassFile.FieldType.int)) (by decide) rfl ?_
  intro p e s m args below meth c s₁ B hml hv
  obtain ⟨rfl, hsz, hP, hK, hD0⟩ := hv
  have hx := B.exec
  have hb := B.bytes
  have hr := B.returns
  have hts0 := atoms_spec (ws := ws_Fo_lineEnd) B.pre
  have hts : ∀ w ∈ xg_1, w.before _ s = true := fun w h => hts0 w (List.mem_cons_of_mem _ h)
  have hown : s.vm.findClass "PatchStore$Form" = some m.cls := findClass_of_methodNamed B.named
  have hlocks := B.notSynchronized
  subst hsz
  have hD := hD0.self (sz := s.heap.size)
  generalize hAe : va_A [(h, .inr (2, [.ref sk])), (sk, .inr (9, [.ref b_y, sk_from, sk_firstDependency, sk_firstChange, sk_dependencies, sk_hashes, sk_byHash, sk_leansOn, sk_leantBy, sk_changes, sk_lines, sk_patches])), (b_y, .inl (cB, 290000, .inl f))] s.heap.size = A at hD ⊢
  have hA : ∀ q : Nat, s.heap.size ≤ q → A q := fun q h => by rw [← hAe]; exact Or.inr h
  have hS : va_S A s.heap s.heap [] := va_S.rf
  have hl := lv_entry ([.ref h, .int (nI a), .int (nI en)]) (n := 6) (Nat.le_of_ble_eq_true rfl)
  rw [lg_entry_eq]
  generalize (lg_sl ([.ref h, .int (nI a), .int (nI en)]) ++ List.replicate (6 - (lg_sl ([.ref h, .int (nI a), .int (nI en)])).length) Slot.unset).toArray = ls at hl ⊢
  have hl : lv_has ls 6 [(0, .ref h), (1, .int (nI a)), (2, .int (nI en))] := hl
  generalize hQe : MQ _ _ _ _ _ _ _ = Q
  refine lv_iload_n hx hb d_Fo_lineEnd_0 rfl (lv_at hl 1 rfl) ?_
  refine lv_iconst (v := 2) hx hb d_Fo_lineEnd_1 (by decide) ?_
  refine lv_iadd hx hb d_Fo_lineEnd_2 ?_
  refine lv_topi (fun x_1 ex_1 => ?_)
  obtain rfl : x_1 = nI (a + 2) := by rw [ex_1]; first | done | (exact nI_add _ _)
  refine lv_iload_n hx hb d_Fo_lineEnd_3 rfl (lv_at hl 2 rfl) ?_
  refine lv_icmp_le (tgt := 9) hx hb d_Fo_lineEnd_4 (by decide) (fun c_4 => ?_) (fun c_4 => ?_)
  · have n_4 : (a + 2) ≤ en := (nI_leI (a := (a + 2)) (b := en) (by omega) (by omega)).mp c_4
    have htw := tw_lt f a
    refine lv_aload_n hx hb d_Fo_lineEnd_9 rfl (lv_at hl 0 rfl) ?_
    refine va_get (D := (dC, dI)) (ci := 2) (v := .ref sk) (C := R_Fo) (T := F_Fo) (N := 1) hx hb hts i_Fo hown hK hP 0 rfl rfl 0 (by decide) (hts _ gw_280) (fun _ h9 => h9) rfl d_Fo_lineEnd_10 ?_
    refine lv_iload_n hx hb d_Fo_lineEnd_13 rfl (lv_at hl 1 rfl) ?_
    have hPc := hP.sub (ws' := [(sk, .inr (9, [.ref b_y, sk_from, sk_firstDependency, sk_firstChange, sk_dependencies, sk_hashes, sk_byHash, sk_leansOn, sk_leantBy, sk_changes, sk_lines, sk_patches])), (b_y, .inl (cB, 290000, .inl f))]) [1, 2] rfl
    have hDc := hD.sub (ws' := [(sk, .inr (9, [.ref b_y, sk_from, sk_firstDependency, sk_firstChange, sk_dependencies, sk_hashes, sk_byHash, sk_leansOn, sk_leantBy, sk_changes, sk_lines, sk_patches])), (b_y, .inl (cB, 290000, .inl f))]) [1, 2] (by decide) rfl
    have hFc := va_free (wc := [(sk, .inr (9, [.ref b_y, sk_from, sk_firstDependency, sk_firstChange, sk_dependencies, sk_hashes, sk_byHash, sk_leansOn, sk_leantBy, sk_changes, sk_lines, sk_patches])), (b_y, .inl (cB, 290000, .inl f))]) hD hS hA [1, 2] rfl
    refine va_calli (va_runV (As := [.int (nI a)]) (rest := []) ⟨hx, hb, hml, hown, hts⟩ (m_St_two l dC dI cI cB cL cZ cR sk b_y (sk_from) (sk_firstDependency) (sk_firstChange) (sk_dependencies) (sk_hashes) (sk_byHash) (sk_leansOn) (sk_leantBy) (sk_changes) (sk_lines) (sk_patches) f a s.heap.size (by omega)) (cwV 1 hts (xg_V gw_770 gw_771 gw_772 gw_3 gw_773) rfl rfl rfl (by decide +kernel) ⟨Nat.le_of_ble_eq_true rfl, Nat.le_of_ble_eq_true rfl⟩) ⟨xw_blind, va_recv hK hPc (ci := 9) (q0 := 0) rfl rfl, fun U hU hW => ⟨rfl, by rw [hU], by rw [hU]; exact hPc, va_K.moved hW.alike hK, hDc.weaken (fun _ _ _ _ => trivial)⟩⟩ rfl rfl hl.1 rfl (lv_room (Nat.le_of_ble_eq_true rfl)) d_Fo_lineEnd_14 ⟨Nat.le_of_ble_eq_true rfl, Nat.le_of_ble_eq_true rfl⟩) hS (fun q _ h => hFc q h) hFc (fun r9 u t H1 locs ht hvm hw hB hz1 hk1 hS => ?_)
    obtain ⟨hP1, hK1, hD1⟩ := hB
    rw [ht] at hP1
    obtain ⟨hP, hD⟩ := va_join (wr := [(h, .inr (2, [.ref sk]))]) (w1 := [(sk, .inr (9, [.ref b_y, sk_from, sk_firstDependency, sk_firstChange, sk_dependencies, sk_hashes, sk_byHash, sk_leansOn, sk_leantBy, sk_changes, sk_lines, sk_patches])), (b_y, .inl (cB, 290000, .inl f))]) hP hD [1, 2] [0] rfl rfl (by decide) (by decide) hk1 hFc hP1 hD1
    generalize H1 = H at hP hS ⊢
    have hP : va_P (dC, dI) classes [(h, .inr (2, [.ref sk])), (sk, .inr (9, [.ref b_y, sk_from, sk_firstDependency, sk_firstChange, sk_dependencies, sk_hashes, sk_byHash, sk_leansOn, sk_leantBy, sk_changes, sk_lines, sk_patches])), (b_y, .inl (cB, 290000, .inl f))] H := hP
    have hD : va_D A [(h, .inr (2, [.ref sk])), (sk, .inr (9, [.ref b_y, sk_from, sk_firstDependency, sk_firstChange, sk_dependencies, sk_hashes, sk_byHash, sk_leansOn, sk_leantBy, sk_changes, sk_lines, sk_patches])), (b_y, .inl (cB, 290000, .inl f))] := hD
    subst hw
    have htw9 := tw_lt f a
    refine lv_istore_n (lv' := [(3, .int (nI (tw f a))), (0, .ref h), (1, .int (nI a)), (2, .int (nI en))]) hx hb d_Fo_lineEnd_17 rfl hl (by decide) rfl (fun ls hl => ?_)
    refine lv_iload_n hx hb d_Fo_lineEnd_18 rfl (lv_at hl 2 rfl) ?_
    refine lv_iconst (v := 1) hx hb d_Fo_lineEnd_19 (by decide) ?_
    refine lv_iadd hx hb d_Fo_lineEnd_20 ?_
    refine lv_topi (fun x_2 ex_2 => ?_)
    obtain rfl : x_2 = nI (a + 1) := by rw [ex_2]; first | done | (exact nI_add _ _)
    refine lv_iload_n hx hb d_Fo_lineEnd_21 rfl (lv_at hl 0 rfl) ?_
    refine lv_iadd hx hb d_Fo_lineEnd_22 ?_
    refine lv_topi (fun x_3 ex_3 => ?_)
    obtain rfl : x_3 = nI (a + 1 + (tw f a)) := by rw [ex_3]; first | done | (exact nI_add _ _)
    refine lv_istore (lv' := [(4, .int (nI (a + 1 + (tw f a)))), (3, .int (nI (tw f a))), (0, .ref h), (1, .int (nI a)), (2, .int (nI en))]) hx hb d_Fo_lineEnd_23 hl (by decide) rfl (fun ls hl => ?_)
    refine lv_iload_n hx hb d_Fo_lineEnd_25 rfl (lv_at hl 1 rfl) ?_
    refine lv_if_eq (tgt := 42) hx hb d_Fo_lineEnd_26 (by decide) (fun c_26 => ?_) (fun c_26 => ?_)
    · have n_26 : (tw f a) = 0 := (nI_eq (a := (tw f a)) (b := 0) (by omega) (by omega)).mp c_26
      have hno : ∀ q, ¬ lnR f en a q := fun q z => by
        have := z.2.1
        omega
      refine lv_iconst (v := (-1)) hx hb d_Fo_lineEnd_42 (by decide) ?_
      rw [← hQe]
      exact W.iret (v := (-1)) hx hb hr (fun t ht hW => ⟨⟨_, 0, rfl, Or.inr ⟨rfl, hno⟩, by rw [ht]; exact hP, va_K.moved hW.alike hK, hD⟩, hS.F ht⟩) hS.2.2 d_Fo_lineEnd_43
    · have n_26 : ¬ (tw f a) = 0 := fun z => c_26 ((nI_eq (a := (tw f a)) (b := 0) (by omega) (by omega)).mpr z)
      refine lv_iload_n hx hb d_Fo_lineEnd_29 rfl (lv_at hl 1 rfl) ?_
      refine lv_sipush (v := 500) hx hb d_Fo_lineEnd_30 (by decide) ?_
      refine lv_icmp_gt (tgt := 42) hx hb d_Fo_lineEnd_33 (by decide) (fun c_33 => ?_) (fun c_33 => ?_)
      · have n_33 : 500 < (tw f a) := (nI_ltI (a := 500) (b := (tw f a)) (by omega) (by omega)).mp c_33
        have hno : ∀ q, ¬ lnR f en a q := fun q z => by
          have := z.2.2.1
          omega
        refine lv_iconst (v := (-1)) hx hb d_Fo_lineEnd_42 (by decide) ?_
        rw [← hQe]
        exact W.iret (v := (-1)) hx hb hr (fun t ht hW => ⟨⟨_, 0, rfl, Or.inr ⟨rfl, hno⟩, by rw [ht]; exact hP, va_K.moved hW.alike hK, hD⟩, hS.F ht⟩) hS.2.2 d_Fo_lineEnd_43
      · have n_33 : (tw f a) ≤ 500 := Nat.le_of_not_lt (fun z => c_33 ((nI_ltI (a := 500) (b := (tw f a)) (by omega) (by omega)).mpr z))
        refine lv_iload hx hb d_Fo_lineEnd_36 (lv_at hl 0 rfl) ?_
        refine lv_iload_n hx hb d_Fo_lineEnd_38 rfl (lv_at hl 4 rfl) ?_
        refine lv_icmp_lt (tgt := 44) hx hb d_Fo_lineEnd_39 (by decide) (fun c_39 => ?_) (fun c_39 => ?_)
        · have n_39 : (a + 1 + (tw f a)) < en := (nI_ltI (a := (a + 1 + (tw f a))) (b := en) (by omega) (by omega)).mp c_39
          refine lv_iload_n hx hb d_Fo_lineEnd_44 rfl (lv_at hl 3 rfl) ?_
          refine lv_iconst (v := 2) hx hb d_Fo_lineEnd_45 (by decide) ?_
          refine lv_iadd hx hb d_Fo_lineEnd_46 ?_
          refine lv_topi (fun x_4 ex_4 => ?_)
          obtain rfl : x_4 = nI (a + 2) := by rw [ex_4]; first | done | (exact nI_add _ _)
          refine lv_istore (lv' := [(5, .int (nI (a + 2))), (4, .int (nI (a + 1 + (tw f a)))), (3, .int (nI (tw f a))), (0, .ref h), (1, .int (nI a)), (2, .int (nI en))]) hx hb d_Fo_lineEnd_47 hl (by decide) rfl (fun ls hl => ?_)
          have loop_49 : ∀ (n9 : Nat) (k : Nat) (H : Heap) (locs : List Loc) (ls : Array Slot), a + 1 + tw f a - k < n9 → (a + 2 ≤ k) → (k ≤ a + 1 + tw f a) → (∀ i, a + 2 ≤ i → i < k → ¬ f i = 10) → va_P (dC, dI) classes [(h, .inr (2, [.ref sk])), (sk, .inr (9, [.ref b_y, sk_from, sk_firstDependency, sk_firstChange, sk_dependencies, sk_hashes, sk_byHash, sk_leansOn, sk_leantBy, sk_changes, sk_lines, sk_patches])), (b_y, .inl (cB, 290000, .inl f))] H → va_D A [(h, .inr (2, [.ref sk])), (sk, .inr (9, [.ref b_y, sk_from, sk_firstDependency, sk_firstChange, sk_dependencies, sk_hashes, sk_byHash, sk_leansOn, sk_leantBy, sk_changes, sk_lines, sk_patches])), (b_y, .inl (cB, 290000, .inl f))] → va_S A s.heap H locs → lv_has ls 6 [(0, .ref h), (1, .int (nI a)), (2, .int (nI en)), (3, .int (nI (tw f a))), (4, .int (nI (a + 1 + (tw f a)))), (5, .int (nI k))] → W p l e (headSpec ws_Fo_lineEnd ({ frames := 1, cells := 0, slots := 0, locals := 60 })).room s m ([.ref h, .int (nI a), .int (nI en)] : List Value).toArray below meth c H locs 0 0 Q (F0 m 49 ls []) := by
            intro n9
            induction n9 with
            | zero => intro k H locs ls hm; exact absurd hm (Nat.not_lt_zero _)
            | succ n9 ih_49 =>
              intro k H locs ls hm hk1 hk2 hq hP hD hS hl
              refine lv_iload hx hb d_Fo_lineEnd_49 (lv_at hl 5 rfl) ?_
              refine lv_iload hx hb d_Fo_lineEnd_51 (lv_at hl 4 rfl) ?_
              refine lv_icmp_ge (tgt := 79) hx hb d_Fo_lineEnd_53 (by decide) (fun c_53 => ?_) (fun c_53 => ?_)
              · have n_53 : (a + 1 + (tw f a)) ≤ k := (nI_leI (a := (a + 1 + (tw f a))) (b := k) (by omega) (by omega)).mp c_53
                refine lv_iload hx hb d_Fo_lineEnd_79 (lv_at hl 4 rfl) ?_
                refine lv_iconst (v := 1) hx hb d_Fo_lineEnd_81 (by decide) ?_
                refine lv_iadd hx hb d_Fo_lineEnd_82 ?_
                refine lv_topi (fun x_5 ex_5 => ?_)
                obtain rfl : x_5 = nI ((a + 1 + (tw f a)) + 1) := by rw [ex_5]; first | done | (exact nI_add _ _)
                rw [← hQe]
                exact W.iret (v := nI ((a + 1 + (tw f a)) + 1)) hx hb hr (fun t ht hW => ⟨⟨_, ((a + 1 + (tw f a)) + 1), rfl, Or.inl ⟨⟨n_4, by omega, by omega, n_39, fun i z1 z2 => hq i z1 (by omega), by omega⟩, rfl⟩, by rw [ht]; exact hP, va_K.moved hW.alike hK, hD⟩, hS.F ht⟩) hS.2.2 d_Fo_lineEnd_83
              · have n_53 : k < (a + 1 + (tw f a)) := Nat.lt_of_not_le (fun z => c_53 ((nI_leI (a := (a + 1 + (tw f a))) (b := k) (by omega) (by omega)).mpr z))
                refine lv_aload_n hx hb d_Fo_lineEnd_56 rfl (lv_at hl 0 rfl) ?_
                refine va_get (D := (dC, dI)) (ci := 2) (v := .ref sk) (C := R_Fo) (T := F_Fo) (N := 1) hx hb hts i_Fo hown hK hP 0 rfl rfl 0 (by decide) (hts _ gw_280) (fun _ h9 => h9) rfl d_Fo_lineEnd_57 ?_
                refine va_get (D := (dC, dI)) (ci := 9) (v := .ref b_y) (C := R_St) (T := F_St) (N := 12) hx hb hts i_St hown hK hP 1 rfl rfl 0 (by decide) (hts _ gw_186) (fun _ h9 => h9) rfl d_Fo_lineEnd_60 ?_
                refine lv_iload hx hb d_Fo_lineEnd_63 (lv_at hl 5 rfl) ?_
                refine va_bald hx hb hK hP 2 1 rfl rfl (vp_in_nI (by omega) (by omega)) d_Fo_lineEnd_65 ?_
                rw [show (nI k).toNatClampNeg = k from nI_clamp (by omega)]
                refine lv_bipush (v := 10) hx hb d_Fo_lineEnd_66 (by decide) ?_
                refine lv_icmp_ne (tgt := 73) hx hb d_Fo_lineEnd_68 (by decide) (fun c_68 => ?_) (fun c_68 => ?_)
                · refine lv_iinc (v := nI (k + 1)) (lv' := [(5, .int (nI (k + 1))), (0, .ref h), (1, .int (nI a)), (2, .int (nI en)), (3, .int (nI (tw f a))), (4, .int (nI (a + 1 + (tw f a))))]) hx hb d_Fo_lineEnd_73 hl (k := 5) rfl (by exact nI_add _ _) (by decide) rfl (fun ls hl => ?_)
                  refine lv_goto (tgt := 49) hx hb d_Fo_lineEnd_76 (by decide) ?_
                  exact ih_49 (k + 1) _ _ _ (by omega) (by omega) (by omega) (fun i z1 z2 => if h9 : i = k then h9 ▸ c_68 else hq i z1 (by omega)) hP hD hS (lv_sub hl [1, 2, 3, 4, 5, 0] rfl)
                · have hno : ∀ q, ¬ lnR f en a q := fun q z => by
                    have := z.2.2.2.2.1 k hk1 (by omega)
                    exact this c_68
                  refine lv_iconst (v := (-1)) hx hb d_Fo_lineEnd_71 (by decide) ?_
                  rw [← hQe]
                  exact W.iret (v := (-1)) hx hb hr (fun t ht hW => ⟨⟨_, 0, rfl, Or.inr ⟨rfl, hno⟩, by rw [ht]; exact hP, va_K.moved hW.alike hK, hD⟩, hS.F ht⟩) hS.2.2 d_Fo_lineEnd_72
          exact loop_49 _ (a + 2) _ _ _ (Nat.lt_succ_self _) (Nat.le_refl _) (by omega) (fun i z1 z2 => absurd z2 (by omega)) hP hD hS (lv_sub hl [3, 4, 5, 2, 1, 0] rfl)
        · have n_39 : en ≤ (a + 1 + (tw f a)) := Nat.le_of_not_lt (fun z => c_39 ((nI_ltI (a := (a + 1 + (tw f a))) (b := en) (by omega) (by omega)).mpr z))
          have hno : ∀ q, ¬ lnR f en a q := fun q z => by
            have := z.2.2.2.1
            omega
          refine lv_iconst (v := (-1)) hx hb d_Fo_lineEnd_42 (by decide) ?_
          rw [← hQe]
          exact W.iret (v := (-1)) hx hb hr (fun t ht hW => ⟨⟨_, 0, rfl, Or.inr ⟨rfl, hno⟩, by rw [ht]; exact hP, va_K.moved hW.alike hK, hD⟩, hS.F ht⟩) hS.2.2 d_Fo_lineEnd_43
  · have n_4 : en < (a + 2) := Nat.lt_of_not_le (fun z => c_4 ((nI_leI (a := (a + 2)) (b := en) (by omega) (by omega)).mpr z))
    have hno : ∀ q, ¬ lnR f en a q := fun q z => by
      have := z.1
      omega
    refine lv_iconst (v := (-1)) hx hb d_Fo_lineEnd_7 (by decide) ?_
    rw [← hQe]
    exact W.iret (v := (-1)) hx hb hr (fun t ht hW => ⟨⟨_, 0, rfl, Or.inr ⟨rfl, hno⟩, by rw [ht]; exact hP, va_K.moved hW.alike hK, hD⟩, hS.F ht⟩) hS.2.2 d_Fo_lineEnd_8
set_option maxHeartbeats 4000000 in
set_option maxRecDepth 100000 in
/-- behind an insert -/
theorem m_Fo_insertEnd (l : Launch) (dC : Nat → ClassId) (dI : Nat → Nat → Nat) (cI cB cL cZ cR : ClassId) (h sk b_y : Nat) (sk_from sk_firstDependency sk_firstChange sk_dependencies sk_hashes sk_byHash sk_leansOn sk_leantBy sk_changes sk_lines sk_patches : Value) (f : Nat → Int32) (en a : Nat) (sz : Nat) (he : en ≤ 290000) (ha : a < en) : Met l y_Fo_insertEnd ws_Fo_insertEnd ({ frames := 2, cells := 0, slots := 0, locals := 120 }) (xw_Pc dC dI [(cI, .int), (cB, .byte), (cL, .long), (cZ, .boolean), (cR, .object "PatchStore$Repository")] [.ref h, .int (nI a), .int (nI en)] [(h, .inr (2, [.ref sk])), (sk, .inr (9, [.ref b_y, sk_from, sk_firstDependency, sk_firstChange, sk_dependencies, sk_hashes, sk_byHash, sk_leansOn, sk_leantBy, sk_changes, sk_lines, sk_patches])), (b_y, .inl (cB, 290000, .inl f))] sz) (va_Qi (fun (r : Int32) (u : Nat) => (insR f en a u ∧ r = nI u) ∨ (r = -1 ∧ ∀ q, ¬ insR f en a q)) (fun _ t => xw_B dC dI [(cI, .int), (cB, .byte), (cL, .long), (cZ, .boolean), (cR, .object "PatchStore$Repository")] (va_A [(h, .inr (2, [.ref sk])), (sk, .inr (9, [.ref b_y, sk_from, sk_firstDependency, sk_firstChange, sk_dependencies, sk_hashes, sk_byHash, sk_leansOn, sk_leantBy, sk_changes, sk_lines, sk_patches])), (b_y, .inl (cB, 290000, .inl f))] sz) [(h, .inr (2, [.ref sk])), (sk, .inr (9, [.ref b_y, sk_from, sk_firstDependency, sk_firstChange, sk_dependencies, sk_hashes, sk_byHash, sk_leansOn, sk_leantBy, sk_changes, sk_lines, sk_patches])), (b_y, .inl (cB, 290000, .inl f))] t) (va_A [(h, .inr (2, [.ref sk])), (sk, .inr (9, [.ref b_y, sk_from, sk_firstDependency, sk_firstChange, sk_dependencies, sk_hashes, sk_byHash, sk_leansOn, sk_leantBy, sk_changes, sk_lines, sk_patches])), (b_y, .inl (cB, 290000, .inl f))] sz)) 0 0 (va_A [(h, .inr (2, [.ref sk])), (sk, .inr (9, [.ref b_y, sk_from, sk_firstDependency, sk_firstChange, sk_dependencies, sk_hashes, sk_byHash, sk_leansOn, sk_leantBy, sk_changes, sk_lines, sk_patches])), (b_y, .inl (cB, 290000, .inl f))] sz) := by
  refine Met.ofW (cc := prog_3_method_9_code) (maxL := 6) (ret := (Option.some Jvm.ClassFile.FieldType.int)) (by decide) rfl ?_
  intro p e s m args below meth c s₁ B hml hv
  obtain ⟨rfl, hsz, hP, hK, hD0⟩ := hv
  have hx := B.exec
  have hb := B.bytes
  have hr := B.returns
  have hts0 := atoms_spec (ws := ws_Fo_insertEnd) B.pre
  have hts : ∀ w ∈ xg_1, w.before _ s = true := fun w h => hts0 w (List.mem_cons_of_mem _ h)
  have hown : s.vm.findClass "PatchStore$Form" = some m.cls := findClass_of_methodNamed B.named
  have hlocks := B.notSynchronized
  subst hsz
  have hD := hD0.self (sz := s.heap.size)
  generalize hAe : va_A [(h, .inr (2, [.ref sk])), (sk, .inr (9, [.ref b_y, sk_from, sk_firstDependency, sk_firstChange, sk_dependencies, sk_hashes, sk_byHash, sk_leansOn, sk_leantBy, sk_changes, sk_lines, sk_patches])), (b_y, .inl (cB, 290000, .inl f))] s.heap.size = A at hD ⊢
  have hA : ∀ q : Nat, s.heap.size ≤ q → A q := fun q h => by rw [← hAe]; exact Or.inr h
  have hS : va_S A s.heap s.heap [] := va_S.rf
  have hl := lv_entry ([.ref h, .int (nI a), .int (nI en)]) (n := 6) (Nat.le_of_ble_eq_true rfl)
  rw [lg_entry_eq]
  generalize (lg_sl ([.ref h, .int (nI a), .int (nI en)]) ++ List.replicate (6 - (lg_sl ([.ref h, .int (nI a), .int (nI en)])).length) Slot.unset).toArray = ls at hl ⊢
  have hl : lv_has ls 6 [(0, .ref h), (1, .int (nI a)), (2, .int (nI en))] := hl
  generalize hQe : MQ _ _ _ _ _ _ _ = Q
  refine lv_aload_n hx hb d_Fo_insertEnd_0 rfl (lv_at hl 0 rfl) ?_
  refine lv_aload_n hx hb d_Fo_insertEnd_1 rfl (lv_at hl 0 rfl) ?_
  refine lv_iload_n hx hb d_Fo_insertEnd_2 rfl (lv_at hl 1 rfl) ?_
  refine lv_iconst (v := 5) hx hb d_Fo_insertEnd_3 (by decide) ?_
  refine lv_iadd hx hb d_Fo_insertEnd_4 ?_
  refine lv_topi (fun x_1 ex_1 => ?_)
  obtain rfl : x_1 = nI (a + 5) := by rw [ex_1]; first | done | (exact nI_add _ _)
  refine lv_iload_n hx hb d_Fo_insertEnd_5 rfl (lv_at hl 2 rfl) ?_
  have hPc := hP.sub (ws' := [(h, .inr (2, [.ref sk])), (sk, .inr (9, [.ref b_y, sk_from, sk_firstDependency, sk_firstChange, sk_dependencies, sk_hashes, sk_byHash, sk_leansOn, sk_leantBy, sk_changes, sk_lines, sk_patches])), (b_y, .inl (cB, 290000, .inl f))]) [0, 1, 2] rfl
  have hDc := hD.sub (ws' := [(h, .inr (2, [.ref sk])), (sk, .inr (9, [.ref b_y, sk_from, sk_firstDependency, sk_firstChange, sk_dependencies, sk_hashes, sk_byHash, sk_leansOn, sk_leantBy, sk_changes, sk_lines, sk_patches])), (b_y, .inl (cB, 290000, .inl f))]) [0, 1, 2] (by decide) rfl
  have hFc := va_free (wc := [(h, .inr (2, [.ref sk])), (sk, .inr (9, [.ref b_y, sk_from, sk_firstDependency, sk_firstChange, sk_dependencies, sk_hashes, sk_byHash, sk_leansOn, sk_leantBy, sk_changes, sk_lines, sk_patches])), (b_y, .inl (cB, 290000, .inl f))]) hD hS hA [0, 1, 2] rfl
  refine va_calli (va_runV (As := [.int (nI (a + 5)), .int (nI en)]) (rest := [.ref h]) ⟨hx, hb, hml, hown, hts⟩ (m_Fo_placeEnd l dC dI cI cB cL cZ cR h sk b_y sk_from sk_firstDependency sk_firstChange sk_dependencies sk_hashes sk_byHash sk_leansOn sk_leantBy sk_changes sk_lines sk_patches f en (a + 5) s.heap.size he (by omega)) (cwV 2 hts (xg_V gw_803 gw_805 (xg_p 12 (q := (⟨"PatchStore$Form", "placeEnd", "(II)I"⟩, 1)) (by decide +kernel)) gw_7 gw_806) rfl rfl rfl (by decide +kernel) ⟨Nat.le_of_ble_eq_true rfl, Nat.le_of_ble_eq_true rfl⟩) ⟨xw_blind, va_recv hK hPc (ci := 2) (q0 := 0) rfl rfl, fun U hU hW => ⟨rfl, by rw [hU], by rw [hU]; exact hPc, va_K.moved hW.alike hK, hDc.weaken (fun _ _ _ _ => trivial)⟩⟩ rfl rfl hl.1 rfl (lv_room (Nat.le_of_ble_eq_true rfl)) d_Fo_insertEnd_6 ⟨Nat.le_of_ble_eq_true rfl, Nat.le_of_ble_eq_true rfl⟩) hS (fun q _ h => hFc q h) hFc (fun r9 q1 t H1 locs ht hvm hw hB hz1 hk1 hS => ?_)
  obtain ⟨hP1, hK1, hD1⟩ := hB
  rw [ht] at hP1
  obtain ⟨hP, hD⟩ := va_join (wr := []) (w1 := [(h, .inr (2, [.ref sk])), (sk, .inr (9, [.ref b_y, sk_from, sk_firstDependency, sk_firstChange, sk_dependencies, sk_hashes, sk_byHash, sk_leansOn, sk_leantBy, sk_changes, sk_lines, sk_patches])), (b_y, .inl (cB, 290000, .inl f))]) hP hD [0, 1, 2] [] rfl rfl (by decide) (by decide) hk1 hFc hP1 hD1
  generalize H1 = H at hP hS ⊢
  have hP : va_P (dC, dI) classes [(h, .inr (2, [.ref sk])), (sk, .inr (9, [.ref b_y, sk_from, sk_firstDependency, sk_firstChange, sk_dependencies, sk_hashes, sk_byHash, sk_leansOn, sk_leantBy, sk_changes, sk_lines, sk_patches])), (b_y, .inl (cB, 290000, .inl f))] H := hP
  have hD : va_D A [(h, .inr (2, [.ref sk])), (sk, .inr (9, [.ref b_y, sk_from, sk_firstDependency, sk_firstChange, sk_dependencies, sk_hashes, sk_byHash, sk_leansOn, sk_leantBy, sk_changes, sk_lines, sk_patches])), (b_y, .inl (cB, 290000, .inl f))] := hD
  rcases hw with ⟨hR1, rfl⟩ | ⟨rfl, hR1⟩
  · have hP : va_P (dC, dI) classes [(h, .inr (2, [.ref sk])), (sk, .inr (9, [.ref b_y, sk_from, sk_firstDependency, sk_firstChange, sk_dependencies, sk_hashes, sk_byHash, sk_leansOn, sk_leantBy, sk_changes, sk_lines, sk_patches])), (b_y, .inl (cB, 290000, .inl f))] H := hP
    have hD : va_D A [(h, .inr (2, [.ref sk])), (sk, .inr (9, [.ref b_y, sk_from, sk_firstDependency, sk_firstChange, sk_dependencies, sk_hashes, sk_byHash, sk_leansOn, sk_leantBy, sk_changes, sk_lines, sk_patches])), (b_y, .inl (cB, 290000, .inl f))] := hD
    have hle_q1 := plR.le hR1
    have hlt_q1 := hR1.1
    refine lv_iload_n hx hb d_Fo_insertEnd_9 rfl (lv_at hl 2 rfl) ?_
    have hPc := hP.sub (ws' := [(h, .inr (2, [.ref sk])), (sk, .inr (9, [.ref b_y, sk_from, sk_firstDependency, sk_firstChange, sk_dependencies, sk_hashes, sk_byHash, sk_leansOn, sk_leantBy, sk_changes, sk_lines, sk_patches])), (b_y, .inl (cB, 290000, .inl f))]) [0, 1, 2] rfl
    have hDc := hD.sub (ws' := [(h, .inr (2, [.ref sk])), (sk, .inr (9, [.ref b_y, sk_from, sk_firstDependency, sk_firstChange, sk_dependencies, sk_hashes, sk_byHash, sk_leansOn, sk_leantBy, sk_changes, sk_lines, sk_patches])), (b_y, .inl (cB, 290000, .inl f))]) [0, 1, 2] (by decide) rfl
    have hFc := va_free (wc := [(h, .inr (2, [.ref sk])), (sk, .inr (9, [.ref b_y, sk_from, sk_firstDependency, sk_firstChange, sk_dependencies, sk_hashes, sk_byHash, sk_leansOn, sk_leantBy, sk_changes, sk_lines, sk_patches])), (b_y, .inl (cB, 290000, .inl f))]) hD hS hA [0, 1, 2] rfl
    refine va_calli (va_runV (As := [.int (nI q1), .int (nI en)]) (rest := []) ⟨hx, hb, hml, hown, hts⟩ (m_Fo_placeEnd l dC dI cI cB cL cZ cR h sk b_y sk_from sk_firstDependency sk_firstChange sk_dependencies sk_hashes sk_byHash sk_leansOn sk_leantBy sk_changes sk_lines sk_patches f en q1 H.size he (by omega)) (cwV 2 hts (xg_V gw_803 gw_805 (xg_p 12 (q := (⟨"PatchStore$Form", "placeEnd", "(II)I"⟩, 1)) (by decide +kernel)) gw_7 gw_806) rfl rfl rfl (by decide +kernel) ⟨Nat.le_of_ble_eq_true rfl, Nat.le_of_ble_eq_true rfl⟩) ⟨xw_blind, va_recv hK hPc (ci := 2) (q0 := 0) rfl rfl, fun U hU hW => ⟨rfl, by rw [hU], by rw [hU]; exact hPc, va_K.moved hW.alike hK, hDc.weaken (fun _ _ _ _ => trivial)⟩⟩ rfl rfl hl.1 rfl (lv_room (Nat.le_of_ble_eq_true rfl)) d_Fo_insertEnd_10 ⟨Nat.le_of_ble_eq_true rfl, Nat.le_of_ble_eq_true rfl⟩) hS (fun q _ h => hFc q h) hFc (fun r9 q2 t H1 locs ht hvm hw hB hz1 hk1 hS => ?_)
    obtain ⟨hP1, hK1, hD1⟩ := hB
    rw [ht] at hP1
    obtain ⟨hP, hD⟩ := va_join (wr := []) (w1 := [(h, .inr (2, [.ref sk])), (sk, .inr (9, [.ref b_y, sk_from, sk_firstDependency, sk_firstChange, sk_dependencies, sk_hashes, sk_byHash, sk_leansOn, sk_leantBy, sk_changes, sk_lines, sk_patches])), (b_y, .inl (cB, 290000, .inl f))]) hP hD [0, 1, 2] [] rfl rfl (by decide) (by decide) hk1 hFc hP1 hD1
    generalize H1 = H at hP hS ⊢
    have hP : va_P (dC, dI) classes [(h, .inr (2, [.ref sk])), (sk, .inr (9, [.ref b_y, sk_from, sk_firstDependency, sk_firstChange, sk_dependencies, sk_hashes, sk_byHash, sk_leansOn, sk_leantBy, sk_changes, sk_lines, sk_patches])), (b_y, .inl (cB, 290000, .inl f))] H := hP
    have hD : va_D A [(h, .inr (2, [.ref sk])), (sk, .inr (9, [.ref b_y, sk_from, sk_firstDependency, sk_firstChange, sk_dependencies, sk_hashes, sk_byHash, sk_leansOn, sk_leantBy, sk_changes, sk_lines, sk_patches])), (b_y, .inl (cB, 290000, .inl f))] := hD
    rcases hw with ⟨hR2, rfl⟩ | ⟨rfl, hR2⟩
    · have hP : va_P (dC, dI) classes [(h, .inr (2, [.ref sk])), (sk, .inr (9, [.ref b_y, sk_from, sk_firstDependency, sk_firstChange, sk_dependencies, sk_hashes, sk_byHash, sk_leansOn, sk_leantBy, sk_changes, sk_lines, sk_patches])), (b_y, .inl (cB, 290000, .inl f))] H := hP
      have hD : va_D A [(h, .inr (2, [.ref sk])), (sk, .inr (9, [.ref b_y, sk_from, sk_firstDependency, sk_firstChange, sk_dependencies, sk_hashes, sk_byHash, sk_leansOn, sk_leantBy, sk_changes, sk_lines, sk_patches])), (b_y, .inl (cB, 290000, .inl f))] := hD
      have hle_q2 := plR.le hR2
      have hlt_q2 := hR2.1
      refine lv_istore_n (lv' := [(3, .int (nI q2)), (0, .ref h), (1, .int (nI a)), (2, .int (nI en))]) hx hb d_Fo_insertEnd_13 rfl hl (by decide) rfl (fun ls hl => ?_)
      refine lv_iload_n hx hb d_Fo_insertEnd_14 rfl (lv_at hl 0 rfl) ?_
      refine lv_if_lt (tgt := 25) hx hb d_Fo_insertEnd_15 (by decide) (fun c_15 => absurd c_15 (nI_pos (by omega))) (fun _ => ?_)
      refine lv_iload_n hx hb d_Fo_insertEnd_18 rfl (lv_at hl 0 rfl) ?_
      refine lv_iconst (v := 2) hx hb d_Fo_insertEnd_19 (by decide) ?_
      refine lv_iadd hx hb d_Fo_insertEnd_20 ?_
      refine lv_topi (fun x_2 ex_2 => ?_)
      obtain rfl : x_2 = nI (q2 + 2) := by rw [ex_2]; first | done | (exact nI_add _ _)
      refine lv_iload_n hx hb d_Fo_insertEnd_21 rfl (lv_at hl 3 rfl) ?_
      refine lv_icmp_le (tgt := 27) hx hb d_Fo_insertEnd_22 (by decide) (fun c_22 => ?_) (fun c_22 => ?_)
      · have n_22 : (q2 + 2) ≤ en := (nI_leI (a := (q2 + 2)) (b := en) (by omega) (by omega)).mp c_22
        have htw := tw_lt f q2
        refine lv_aload_n hx hb d_Fo_insertEnd_27 rfl (lv_at hl 1 rfl) ?_
        refine va_get (D := (dC, dI)) (ci := 2) (v := .ref sk) (C := R_Fo) (T := F_Fo) (N := 1) hx hb hts i_Fo hown hK hP 0 rfl rfl 0 (by decide) (hts _ gw_280) (fun _ h9 => h9) rfl d_Fo_insertEnd_28 ?_
        refine lv_iload_n hx hb d_Fo_insertEnd_31 rfl (lv_at hl 0 rfl) ?_
        have hPc := hP.sub (ws' := [(sk, .inr (9, [.ref b_y, sk_from, sk_firstDependency, sk_firstChange, sk_dependencies, sk_hashes, sk_byHash, sk_leansOn, sk_leantBy, sk_changes, sk_lines, sk_patches])), (b_y, .inl (cB, 290000, .inl f))]) [1, 2] rfl
        have hDc := hD.sub (ws' := [(sk, .inr (9, [.ref b_y, sk_from, sk_firstDependency, sk_firstChange, sk_dependencies, sk_hashes, sk_byHash, sk_leansOn, sk_leantBy, sk_changes, sk_lines, sk_patches])), (b_y, .inl (cB, 290000, .inl f))]) [1, 2] (by decide) rfl
        have hFc := va_free (wc := [(sk, .inr (9, [.ref b_y, sk_from, sk_firstDependency, sk_firstChange, sk_dependencies, sk_hashes, sk_byHash, sk_leansOn, sk_leantBy, sk_changes, sk_lines, sk_patches])), (b_y, .inl (cB, 290000, .inl f))]) hD hS hA [1, 2] rfl
        refine va_calli (va_runV (As := [.int (nI q2)]) (rest := []) ⟨hx, hb, hml, hown, hts⟩ (m_St_two l dC dI cI cB cL cZ cR sk b_y (sk_from) (sk_firstDependency) (sk_firstChange) (sk_dependencies) (sk_hashes) (sk_byHash) (sk_leansOn) (sk_leantBy) (sk_changes) (sk_lines) (sk_patches) f q2 H.size (by omega)) (cwV 1 hts (xg_V gw_770 gw_771 gw_772 gw_3 gw_773) rfl rfl rfl (by decide +kernel) ⟨Nat.le_of_ble_eq_true rfl, Nat.le_of_ble_eq_true rfl⟩) ⟨xw_blind, va_recv hK hPc (ci := 9) (q0 := 0) rfl rfl, fun U hU hW => ⟨rfl, by rw [hU], by rw [hU]; exact hPc, va_K.moved hW.alike hK, hDc.weaken (fun _ _ _ _ => trivial)⟩⟩ rfl rfl hl.1 rfl (lv_room (Nat.le_of_ble_eq_true rfl)) d_Fo_insertEnd_32 ⟨Nat.le_of_ble_eq_true rfl, Nat.le_of_ble_eq_true rfl⟩) hS (fun q _ h => hFc q h) hFc (fun r9 u t H1 locs ht hvm hw hB hz1 hk1 hS => ?_)
        obtain ⟨hP1, hK1, hD1⟩ := hB
        rw [ht] at hP1
        obtain ⟨hP, hD⟩ := va_join (wr := [(h, .inr (2, [.ref sk]))]) (w1 := [(sk, .inr (9, [.ref b_y, sk_from, sk_firstDependency, sk_firstChange, sk_dependencies, sk_hashes, sk_byHash, sk_leansOn, sk_leantBy, sk_changes, sk_lines, sk_patches])), (b_y, .inl (cB, 290000, .inl f))]) hP hD [1, 2] [0] rfl rfl (by decide) (by decide) hk1 hFc hP1 hD1
        generalize H1 = H at hP hS ⊢
        have hP : va_P (dC, dI) classes [(h, .inr (2, [.ref sk])), (sk, .inr (9, [.ref b_y, sk_from, sk_firstDependency, sk_firstChange, sk_dependencies, sk_hashes, sk_byHash, sk_leansOn, sk_leantBy, sk_changes, sk_lines, sk_patches])), (b_y, .inl (cB, 290000, .inl f))] H := hP
        have hD : va_D A [(h, .inr (2, [.ref sk])), (sk, .inr (9, [.ref b_y, sk_from, sk_firstDependency, sk_firstChange, sk_dependencies, sk_hashes, sk_byHash, sk_leansOn, sk_leantBy, sk_changes, sk_lines, sk_patches])), (b_y, .inl (cB, 290000, .inl f))] := hD
        subst hw
        have htw9 := tw_lt f q2
        refine lv_istore (lv' := [(4, .int (nI (tw f q2))), (3, .int (nI q2)), (0, .ref h), (1, .int (nI a)), (2, .int (nI en))]) hx hb d_Fo_insertEnd_35 hl (by decide) rfl (fun ls hl => ?_)
        refine lv_iload hx hb d_Fo_insertEnd_37 (lv_at hl 0 rfl) ?_
        refine lv_if_ne (tgt := 44) hx hb d_Fo_insertEnd_39 (by decide) (fun c_39 => ?_) (fun c_39 => ?_)
        · have n_39 : ¬ (tw f q2) = 0 := fun z => c_39 ((nI_eq (a := (tw f q2)) (b := 0) (by omega) (by omega)).mpr z)
          refine lv_iinc (v := nI (q2 + 2)) (lv' := [(3, .int (nI (q2 + 2))), (4, .int (nI (tw f q2))), (0, .ref h), (1, .int (nI a)), (2, .int (nI en))]) hx hb d_Fo_insertEnd_44 hl (k := 1) rfl (by exact nI_add _ _) (by decide) rfl (fun ls hl => ?_)
          refine lv_iconst (v := 0) hx hb d_Fo_insertEnd_47 (by decide) ?_
          refine lv_istore (lv' := [(5, .int 0), (3, .int (nI (q2 + 2))), (4, .int (nI (tw f q2))), (0, .ref h), (1, .int (nI a)), (2, .int (nI en))]) hx hb d_Fo_insertEnd_48 hl (by decide) rfl (fun ls hl => ?_)
          have loop_50 : ∀ (n9 : Nat) (i : Nat) (nx : Nat) (H : Heap) (locs : List Loc) (ls : Array Slot), tw f q2 - i < n9 → (i ≤ tw f q2) → (1 ≤ nx) → (nx ≤ en) → (∀ q, lnsR f en (tw f q2) (q2 + 2) q ↔ lnsR f en (tw f q2 - i) nx q) → va_P (dC, dI) classes [(h, .inr (2, [.ref sk])), (sk, .inr (9, [.ref b_y, sk_from, sk_firstDependency, sk_firstChange, sk_dependencies, sk_hashes, sk_byHash, sk_leansOn, sk_leantBy, sk_changes, sk_lines, sk_patches])), (b_y, .inl (cB, 290000, .inl f))] H → va_D A [(h, .inr (2, [.ref sk])), (sk, .inr (9, [.ref b_y, sk_from, sk_firstDependency, sk_firstChange, sk_dependencies, sk_hashes, sk_byHash, sk_leansOn, sk_leantBy, sk_changes, sk_lines, sk_patches])), (b_y, .inl (cB, 290000, .inl f))] → va_S A s.heap H locs → lv_has ls 6 [(0, .ref h), (2, .int (nI en)), (3, .int (nI nx)), (4, .int (nI (tw f q2))), (5, .int (nI i))] → W p l e (headSpec ws_Fo_insertEnd ({ frames := 2, cells := 0, slots := 0, locals := 120 })).room s m ([.ref h, .int (nI a), .int (nI en)] : List Value).toArray below meth c H locs 0 0 Q (F0 m 50 ls []) := by
            intro n9
            induction n9 with
            | zero => intro i nx H locs ls hm; exact absurd hm (Nat.not_lt_zero _)
            | succ n9 ih_50 =>
              intro i nx H locs ls hm hi hnx hne hv hP hD hS hl
              refine lv_iload hx hb d_Fo_insertEnd_50 (lv_at hl 4 rfl) ?_
              refine lv_iload hx hb d_Fo_insertEnd_52 (lv_at hl 3 rfl) ?_
              refine lv_icmp_ge (tgt := 74) hx hb d_Fo_insertEnd_54 (by decide) (fun c_54 => ?_) (fun c_54 => ?_)
              · have n_54 : (tw f q2) ≤ i := (nI_leI (a := (tw f q2)) (b := i) (by omega) (by omega)).mp c_54
                refine lv_iload_n hx hb d_Fo_insertEnd_74 rfl (lv_at hl 2 rfl) ?_
                rw [← hQe]
                exact W.iret (v := nI nx) hx hb hr (fun t ht hW => ⟨⟨_, nx, rfl, Or.inl ⟨⟨q1, q2, hR1, hR2, n_22, by omega, (hv nx).mpr (by rw [show tw f q2 - i = 0 by omega]; rfl)⟩, rfl⟩, by rw [ht]; exact hP, va_K.moved hW.alike hK, hD⟩, hS.F ht⟩) hS.2.2 d_Fo_insertEnd_75
              · have n_54 : i < (tw f q2) := Nat.lt_of_not_le (fun z => c_54 ((nI_leI (a := (tw f q2)) (b := i) (by omega) (by omega)).mpr z))
                refine lv_iload_n hx hb d_Fo_insertEnd_57 rfl (lv_at hl 2 rfl) ?_
                refine lv_if_le (tgt := 74) hx hb d_Fo_insertEnd_58 (by decide) (fun c_58 => absurd c_58 (fun z => absurd ((nI_leI (a := nx) (b := 0) (by omega) (by omega)).mp z) (by omega))) (fun _ => ?_)
                refine lv_aload_n hx hb d_Fo_insertEnd_61 rfl (lv_at hl 0 rfl) ?_
                refine lv_iload_n hx hb d_Fo_insertEnd_62 rfl (lv_at hl 2 rfl) ?_
                refine lv_iload_n hx hb d_Fo_insertEnd_63 rfl (lv_at hl 1 rfl) ?_
                have hPc := hP.sub (ws' := [(h, .inr (2, [.ref sk])), (sk, .inr (9, [.ref b_y, sk_from, sk_firstDependency, sk_firstChange, sk_dependencies, sk_hashes, sk_byHash, sk_leansOn, sk_leantBy, sk_changes, sk_lines, sk_patches])), (b_y, .inl (cB, 290000, .inl f))]) [0, 1, 2] rfl
                have hDc := hD.sub (ws' := [(h, .inr (2, [.ref sk])), (sk, .inr (9, [.ref b_y, sk_from, sk_firstDependency, sk_firstChange, sk_dependencies, sk_hashes, sk_byHash, sk_leansOn, sk_leantBy, sk_changes, sk_lines, sk_patches])), (b_y, .inl (cB, 290000, .inl f))]) [0, 1, 2] (by decide) rfl
                have hFc := va_free (wc := [(h, .inr (2, [.ref sk])), (sk, .inr (9, [.ref b_y, sk_from, sk_firstDependency, sk_firstChange, sk_dependencies, sk_hashes, sk_byHash, sk_leansOn, sk_leantBy, sk_changes, sk_lines, sk_patches])), (b_y, .inl (cB, 290000, .inl f))]) hD hS hA [0, 1, 2] rfl
                refine va_calli (va_runV (As := [.int (nI nx), .int (nI en)]) (rest := []) ⟨hx, hb, hml, hown, hts⟩ (m_Fo_lineEnd l dC dI cI cB cL cZ cR h sk b_y sk_from sk_firstDependency sk_firstChange sk_dependencies sk_hashes sk_byHash sk_leansOn sk_leantBy sk_changes sk_lines sk_patches f en nx H.size he (by omega)) (cwV 2 hts (xg_V gw_807 gw_809 (xg_p 13 (q := (⟨"PatchStore$Form", "lineEnd", "(II)I"⟩, 1)) (by decide +kernel)) gw_7 gw_810) rfl rfl rfl (by decide +kernel) ⟨Nat.le_of_ble_eq_true rfl, Nat.le_of_ble_eq_true rfl⟩) ⟨xw_blind, va_recv hK hPc (ci := 2) (q0 := 0) rfl rfl, fun U hU hW => ⟨rfl, by rw [hU], by rw [hU]; exact hPc, va_K.moved hW.alike hK, hDc.weaken (fun _ _ _ _ => trivial)⟩⟩ rfl rfl hl.1 rfl (lv_room (Nat.le_of_ble_eq_true rfl)) d_Fo_insertEnd_64 ⟨Nat.le_of_ble_eq_true rfl, Nat.le_of_ble_eq_true rfl⟩) hS (fun q _ h => hFc q h) hFc (fun r9 q3 t H1 locs ht hvm hw hB hz1 hk1 hS => ?_)
                obtain ⟨hP1, hK1, hD1⟩ := hB
                rw [ht] at hP1
                obtain ⟨hP, hD⟩ := va_join (wr := []) (w1 := [(h, .inr (2, [.ref sk])), (sk, .inr (9, [.ref b_y, sk_from, sk_firstDependency, sk_firstChange, sk_dependencies, sk_hashes, sk_byHash, sk_leansOn, sk_leantBy, sk_changes, sk_lines, sk_patches])), (b_y, .inl (cB, 290000, .inl f))]) hP hD [0, 1, 2] [] rfl rfl (by decide) (by decide) hk1 hFc hP1 hD1
                generalize H1 = H at hP hS ⊢
                have hP : va_P (dC, dI) classes [(h, .inr (2, [.ref sk])), (sk, .inr (9, [.ref b_y, sk_from, sk_firstDependency, sk_firstChange, sk_dependencies, sk_hashes, sk_byHash, sk_leansOn, sk_leantBy, sk_changes, sk_lines, sk_patches])), (b_y, .inl (cB, 290000, .inl f))] H := hP
                have hD : va_D A [(h, .inr (2, [.ref sk])), (sk, .inr (9, [.ref b_y, sk_from, sk_firstDependency, sk_firstChange, sk_dependencies, sk_hashes, sk_byHash, sk_leansOn, sk_leantBy, sk_changes, sk_lines, sk_patches])), (b_y, .inl (cB, 290000, .inl f))] := hD
                rcases hw with ⟨hR3, rfl⟩ | ⟨rfl, hR3⟩
                · have hP : va_P (dC, dI) classes [(h, .inr (2, [.ref sk])), (sk, .inr (9, [.ref b_y, sk_from, sk_firstDependency, sk_firstChange, sk_dependencies, sk_hashes, sk_byHash, sk_leansOn, sk_leantBy, sk_changes, sk_lines, sk_patches])), (b_y, .inl (cB, 290000, .inl f))] H := hP
                  have hD : va_D A [(h, .inr (2, [.ref sk])), (sk, .inr (9, [.ref b_y, sk_from, sk_firstDependency, sk_firstChange, sk_dependencies, sk_hashes, sk_byHash, sk_leansOn, sk_leantBy, sk_changes, sk_lines, sk_patches])), (b_y, .inl (cB, 290000, .inl f))] := hD
                  have hle3 := lnR.le hR3
                  refine lv_istore_n (lv' := [(3, .int (nI q3)), (0, .ref h), (2, .int (nI en)), (4, .int (nI (tw f q2))), (5, .int (nI i))]) hx hb d_Fo_insertEnd_67 rfl hl (by decide) rfl (fun ls hl => ?_)
                  refine lv_iinc (v := nI (i + 1)) (lv' := [(5, .int (nI (i + 1))), (3, .int (nI q3)), (0, .ref h), (2, .int (nI en)), (4, .int (nI (tw f q2)))]) hx hb d_Fo_insertEnd_68 hl (k := 4) rfl (by exact nI_add _ _) (by decide) rfl (fun ls hl => ?_)
                  refine lv_goto (tgt := 50) hx hb d_Fo_insertEnd_71 (by decide) ?_
                  exact ih_50 (i + 1) q3 _ _ _ (by omega) (by omega) (by omega) (by omega) (fun q => by rw [hv q, show tw f q2 - i = (tw f q2 - (i + 1)) + 1 by omega]; exact lnsR.s hR3) hP hD hS (lv_sub hl [2, 3, 1, 4, 0] rfl)
                · have hP : va_P (dC, dI) classes [(h, .inr (2, [.ref sk])), (sk, .inr (9, [.ref b_y, sk_from, sk_firstDependency, sk_firstChange, sk_dependencies, sk_hashes, sk_byHash, sk_leansOn, sk_leantBy, sk_changes, sk_lines, sk_patches])), (b_y, .inl (cB, 290000, .inl f))] H := hP
                  have hD : va_D A [(h, .inr (2, [.ref sk])), (sk, .inr (9, [.ref b_y, sk_from, sk_firstDependency, sk_firstChange, sk_dependencies, sk_hashes, sk_byHash, sk_leansOn, sk_leantBy, sk_changes, sk_lines, sk_patches])), (b_y, .inl (cB, 290000, .inl f))] := hD
                  have hno : ∀ q, ¬ insR f en a q := fun q z => by
                    obtain ⟨c1, d1, z1, z2, -, -, z3⟩ := z
                    have := plR.uniq z1 hR1
                    subst this
                    have := plR.uniq z2 hR2
                    subst this
                    have z4 := (hv q).mp z3
                    rw [show tw f d1 - i = (tw f d1 - (i + 1)) + 1 by omega] at z4
                    obtain ⟨q4, h4, -⟩ := z4
                    exact hR3 q4 h4
                  refine lv_istore_n (lv' := [(3, .int (-1)), (0, .ref h), (2, .int (nI en)), (4, .int (nI (tw f q2))), (5, .int (nI i))]) hx hb d_Fo_insertEnd_67 rfl hl (by decide) rfl (fun ls hl => ?_)
                  refine lv_iinc (v := nI (i + 1)) (lv' := [(5, .int (nI (i + 1))), (3, .int (-1)), (0, .ref h), (2, .int (nI en)), (4, .int (nI (tw f q2)))]) hx hb d_Fo_insertEnd_68 hl (k := 4) rfl (by exact nI_add _ _) (by decide) rfl (fun ls hl => ?_)
                  refine lv_goto (tgt := 50) hx hb d_Fo_insertEnd_71 (by decide) ?_
                  refine lv_iload hx hb d_Fo_insertEnd_50 (lv_at hl 0 rfl) ?_
                  refine lv_iload hx hb d_Fo_insertEnd_52 (lv_at hl 4 rfl) ?_
                  refine lv_icmp_ge (tgt := 74) hx hb d_Fo_insertEnd_54 (by decide) (fun c_54 => ?_) (fun c_54 => ?_)
                  · have n_54 : (tw f q2) ≤ (i + 1) := (nI_leI (a := (tw f q2)) (b := (i + 1)) (by omega) (by omega)).mp c_54
                    refine lv_iload_n hx hb d_Fo_insertEnd_74 rfl (lv_at hl 1 rfl) ?_
                    rw [← hQe]
                    exact W.iret (v := (-1)) hx hb hr (fun t ht hW => ⟨⟨_, 0, rfl, Or.inr ⟨rfl, hno⟩, by rw [ht]; exact hP, va_K.moved hW.alike hK, hD⟩, hS.F ht⟩) hS.2.2 d_Fo_insertEnd_75
                  · have n_54 : (i + 1) < (tw f q2) := Nat.lt_of_not_le (fun z => c_54 ((nI_leI (a := (tw f q2)) (b := (i + 1)) (by omega) (by omega)).mpr z))
                    refine lv_iload_n hx hb d_Fo_insertEnd_57 rfl (lv_at hl 1 rfl) ?_
                    refine lv_if_le (tgt := 74) hx hb d_Fo_insertEnd_58 (by decide) (fun _ => ?_) (fun c_58 => absurd (by decide) c_58)
                    refine lv_iload_n hx hb d_Fo_insertEnd_74 rfl (lv_at hl 1 rfl) ?_
                    rw [← hQe]
                    exact W.iret (v := (-1)) hx hb hr (fun t ht hW => ⟨⟨_, 0, rfl, Or.inr ⟨rfl, hno⟩, by rw [ht]; exact hP, va_K.moved hW.alike hK, hD⟩, hS.F ht⟩) hS.2.2 d_Fo_insertEnd_75
          exact loop_50 _ 0 (q2 + 2) _ _ _ (Nat.lt_succ_self _) (Nat.zero_le _) (by omega) (n_22) (fun q => Iff.rfl) hP hD hS (lv_sub hl [3, 5, 1, 2, 0] rfl)
        · have n_39 : (tw f q2) = 0 := (nI_eq (a := (tw f q2)) (b := 0) (by omega) (by omega)).mp c_39
          have hno : ∀ q, ¬ insR f en a q := fun q z => by
            obtain ⟨c1, d1, z1, z2, -, z3, -⟩ := z
            have := plR.uniq z1 hR1
            subst this
            have := plR.uniq z2 hR2
            subst this
            omega
          refine lv_iconst (v := (-1)) hx hb d_Fo_insertEnd_42 (by decide) ?_
          rw [← hQe]
          exact W.iret (v := (-1)) hx hb hr (fun t ht hW => ⟨⟨_, 0, rfl, Or.inr ⟨rfl, hno⟩, by rw [ht]; exact hP, va_K.moved hW.alike hK, hD⟩, hS.F ht⟩) hS.2.2 d_Fo_insertEnd_43
      · have n_22 : en < (q2 + 2) := Nat.lt_of_not_le (fun z => c_22 ((nI_leI (a := (q2 + 2)) (b := en) (by omega) (by omega)).mpr z))
        have hno : ∀ q, ¬ insR f en a q := fun q z => by
          obtain ⟨c1, d1, z1, z2, z3, -⟩ := z
          have := plR.uniq z1 hR1
          subst this
          have := plR.uniq z2 hR2
          subst this
          omega
        refine lv_iconst (v := (-1)) hx hb d_Fo_insertEnd_25 (by decide) ?_
        rw [← hQe]
        exact W.iret (v := (-1)) hx hb hr (fun t ht hW => ⟨⟨_, 0, rfl, Or.inr ⟨rfl, hno⟩, by rw [ht]; exact hP, va_K.moved hW.alike hK, hD⟩, hS.F ht⟩) hS.2.2 d_Fo_insertEnd_26
    · have hP : va_P (dC, dI) classes [(h, .inr (2, [.ref sk])), (sk, .inr (9, [.ref b_y, sk_from, sk_firstDependency, sk_firstChange, sk_dependencies, sk_hashes, sk_byHash, sk_leansOn, sk_leantBy, sk_changes, sk_lines, sk_patches])), (b_y, .inl (cB, 290000, .inl f))] H := hP
      have hD : va_D A [(h, .inr (2, [.ref sk])), (sk, .inr (9, [.ref b_y, sk_from, sk_firstDependency, sk_firstChange, sk_dependencies, sk_hashes, sk_byHash, sk_leansOn, sk_leantBy, sk_changes, sk_lines, sk_patches])), (b_y, .inl (cB, 290000, .inl f))] := hD
      have hno : ∀ q, ¬ insR f en a q := fun q z => by
        obtain ⟨c1, d1, z1, z2, -⟩ := z
        have := plR.uniq z1 hR1
        subst this
        exact hR2 d1 z2
      refine lv_istore_n (lv' := [(3, .int (-1)), (0, .ref h), (1, .int (nI a)), (2, .int (nI en))]) hx hb d_Fo_insertEnd_13 rfl hl (by decide) rfl (fun ls hl => ?_)
      refine lv_iload_n hx hb d_Fo_insertEnd_14 rfl (lv_at hl 0 rfl) ?_
      refine lv_if_lt (tgt := 25) hx hb d_Fo_insertEnd_15 (by decide) (fun _ => ?_) (fun c_15 => absurd (by decide) c_15)
      refine lv_iconst (v := (-1)) hx hb d_Fo_insertEnd_25 (by decide) ?_
      rw [← hQe]
      exact W.iret (v := (-1)) hx hb hr (fun t ht hW => ⟨⟨_, 0, rfl, Or.inr ⟨rfl, hno⟩, by rw [ht]; exact hP, va_K.moved hW.alike hK, hD⟩, hS.F ht⟩) hS.2.2 d_Fo_insertEnd_26
  · have hP : va_P (dC, dI) classes [(h, .inr (2, [.ref sk])), (sk, .inr (9, [.ref b_y, sk_from, sk_firstDependency, sk_firstChange, sk_dependencies, sk_hashes, sk_byHash, sk_leansOn, sk_leantBy, sk_changes, sk_lines, sk_patches])), (b_y, .inl (cB, 290000, .inl f))] H := hP
    have hD : va_D A [(h, .inr (2, [.ref sk])), (sk, .inr (9, [.ref b_y, sk_from, sk_firstDependency, sk_firstChange, sk_dependencies, sk_hashes, sk_byHash, sk_leansOn, sk_leantBy, sk_changes, sk_lines, sk_patches])), (b_y, .inl (cB, 290000, .inl f))] := hD
    have hno : ∀ q, ¬ insR f en a q := fun q z => by
      obtain ⟨c1, d1, z1, -⟩ := z
      exact hR1 c1 z1
    refine lv_iload_n hx hb d_Fo_insertEnd_9 rfl (lv_at hl 2 rfl) ?_
    have hPc := hP.sub (ws' := [(h, .inr (2, [.ref sk])), (sk, .inr (9, [.ref b_y, sk_from, sk_firstDependency, sk_firstChange, sk_dependencies, sk_hashes, sk_byHash, sk_leansOn, sk_leantBy, sk_changes, sk_lines, sk_patches])), (b_y, .inl (cB, 290000, .inl f))]) [0, 1, 2] rfl
    have hDc := hD.sub (ws' := [(h, .inr (2, [.ref sk])), (sk, .inr (9, [.ref b_y, sk_from, sk_firstDependency, sk_firstChange, sk_dependencies, sk_hashes, sk_byHash, sk_leansOn, sk_leantBy, sk_changes, sk_lines, sk_patches])), (b_y, .inl (cB, 290000, .inl f))]) [0, 1, 2] (by decide) rfl
    have hFc := va_free (wc := [(h, .inr (2, [.ref sk])), (sk, .inr (9, [.ref b_y, sk_from, sk_firstDependency, sk_firstChange, sk_dependencies, sk_hashes, sk_byHash, sk_leansOn, sk_leantBy, sk_changes, sk_lines, sk_patches])), (b_y, .inl (cB, 290000, .inl f))]) hD hS hA [0, 1, 2] rfl
    refine va_calli (va_runV (As := [.int (-1), .int (nI en)]) (rest := []) ⟨hx, hb, hml, hown, hts⟩ (m_Fo_placeEndN l dC dI cI cB cL cZ cR h sk b_y sk_from sk_firstDependency sk_firstChange sk_dependencies sk_hashes sk_byHash sk_leansOn sk_leantBy sk_changes sk_lines sk_patches f en H.size ) (cwV 2 hts (xg_V gw_803 gw_805 (xg_p 12 (q := (⟨"PatchStore$Form", "placeEnd", "(II)I"⟩, 1)) (by decide +kernel)) gw_7 gw_806) rfl rfl rfl (by decide +kernel) ⟨Nat.le_of_ble_eq_true rfl, Nat.le_of_ble_eq_true rfl⟩) ⟨xw_blind, va_recv hK hPc (ci := 2) (q0 := 0) rfl rfl, fun U hU hW => ⟨rfl, by rw [hU], by rw [hU]; exact hPc, va_K.moved hW.alike hK, hDc.weaken (fun _ _ _ _ => trivial)⟩⟩ rfl rfl hl.1 rfl (lv_room (Nat.le_of_ble_eq_true rfl)) d_Fo_insertEnd_10 ⟨Nat.le_of_ble_eq_true rfl, Nat.le_of_ble_eq_true rfl⟩) hS (fun q _ h => hFc q h) hFc (fun r9 u t H1 locs ht hvm hw hB hz1 hk1 hS => ?_)
    obtain ⟨hP1, hK1, hD1⟩ := hB
    rw [ht] at hP1
    obtain ⟨hP, hD⟩ := va_join (wr := []) (w1 := [(h, .inr (2, [.ref sk])), (sk, .inr (9, [.ref b_y, sk_from, sk_firstDependency, sk_firstChange, sk_dependencies, sk_hashes, sk_byHash, sk_leansOn, sk_leantBy, sk_changes, sk_lines, sk_patches])), (b_y, .inl (cB, 290000, .inl f))]) hP hD [0, 1, 2] [] rfl rfl (by decide) (by decide) hk1 hFc hP1 hD1
    generalize H1 = H at hP hS ⊢
    have hP : va_P (dC, dI) classes [(h, .inr (2, [.ref sk])), (sk, .inr (9, [.ref b_y, sk_from, sk_firstDependency, sk_firstChange, sk_dependencies, sk_hashes, sk_byHash, sk_leansOn, sk_leantBy, sk_changes, sk_lines, sk_patches])), (b_y, .inl (cB, 290000, .inl f))] H := hP
    have hD : va_D A [(h, .inr (2, [.ref sk])), (sk, .inr (9, [.ref b_y, sk_from, sk_firstDependency, sk_firstChange, sk_dependencies, sk_hashes, sk_byHash, sk_leansOn, sk_leantBy, sk_changes, sk_lines, sk_patches])), (b_y, .inl (cB, 290000, .inl f))] := hD
    subst hw
    refine lv_istore_n (lv' := [(3, .int (-1)), (0, .ref h), (1, .int (nI a)), (2, .int (nI en))]) hx hb d_Fo_insertEnd_13 rfl hl (by decide) rfl (fun ls hl => ?_)
    refine lv_iload_n hx hb d_Fo_insertEnd_14 rfl (lv_at hl 0 rfl) ?_
    refine lv_if_lt (tgt := 25) hx hb d_Fo_insertEnd_15 (by decide) (fun _ => ?_) (fun c_15 => absurd (by decide) c_15)
    refine lv_iconst (v := (-1)) hx hb d_Fo_insertEnd_25 (by decide) ?_
    rw [← hQe]
    exact W.iret (v := (-1)) hx hb hr (fun t ht hW => ⟨⟨_, 0, rfl, Or.inr ⟨rfl, hno⟩, by rw [ht]; exact hP, va_K.moved hW.alike hK, hD⟩, hS.F ht⟩) hS.2.2 d_Fo_insertEnd_26
set_option maxHeartbeats 4000000 in
set_option maxRecDepth 100000 in
/-- behind a change -/
theorem m_Fo_changeEnd (l : Launch) (dC : Nat → ClassId) (dI : Nat → Nat → Nat) (cI cB cL cZ cR : ClassId) (h sk b_y : Nat) (sk_from sk_firstDependency sk_firstChange sk_dependencies sk_hashes sk_byHash sk_leansOn sk_leantBy sk_changes sk_lines sk_patches : Value) (f : Nat → Int32) (en a : Nat) (sz : Nat) (he : en ≤ 290000) (ha : a < en) : Met l y_Fo_changeEnd ws_Fo_changeEnd ({ frames := 3, cells := 0, slots := 0, locals := 160 }) (xw_Pc dC dI [(cI, .int), (cB, .byte), (cL, .long), (cZ, .boolean), (cR, .object "PatchStore$Repository")] [.ref h, .int (nI a), .int (nI en)] [(h, .inr (2, [.ref sk])), (sk, .inr (9, [.ref b_y, sk_from, sk_firstDependency, sk_firstChange, sk_dependencies, sk_hashes, sk_byHash, sk_leansOn, sk_leantBy, sk_changes, sk_lines, sk_patches])), (b_y, .inl (cB, 290000, .inl f))] sz) (va_Qi (fun (r : Int32) (u : Nat) => (chR f en a u ∧ r = nI u) ∨ (r = -1 ∧ ∀ q, ¬ chR f en a q)) (fun _ t => xw_B dC dI [(cI, .int), (cB, .byte), (cL, .long), (cZ, .boolean), (cR, .object "PatchStore$Repository")] (va_A [(h, .inr (2, [.ref sk])), (sk, .inr (9, [.ref b_y, sk_from, sk_firstDependency, sk_firstChange, sk_dependencies, sk_hashes, sk_byHash, sk_leansOn, sk_leantBy, sk_changes, sk_lines, sk_patches])), (b_y, .inl (cB, 290000, .inl f))] sz) [(h, .inr (2, [.ref sk])), (sk, .inr (9, [.ref b_y, sk_from, sk_firstDependency, sk_firstChange, sk_dependencies, sk_hashes, sk_byHash, sk_leansOn, sk_leantBy, sk_changes, sk_lines, sk_patches])), (b_y, .inl (cB, 290000, .inl f))] t) (va_A [(h, .inr (2, [.ref sk])), (sk, .inr (9, [.ref b_y, sk_from, sk_firstDependency, sk_firstChange, sk_dependencies, sk_hashes, sk_byHash, sk_leansOn, sk_leantBy, sk_changes, sk_lines, sk_patches])), (b_y, .inl (cB, 290000, .inl f))] sz)) 0 0 (va_A [(h, .inr (2, [.ref sk])), (sk, .inr (9, [.ref b_y, sk_from, sk_firstDependency, sk_firstChange, sk_dependencies, sk_hashes, sk_byHash, sk_leansOn, sk_leantBy, sk_changes, sk_lines, sk_patches])), (b_y, .inl (cB, 290000, .inl f))] sz) := by
  refine Met.ofW (cc := prog_3_method_6_code) (maxL := 3) (ret := (Option.some Jvm.ClassFile.FieldType.int)) (by decide) rfl ?_
  intro p e s m args below meth c s₁ B hml hv
  obtain ⟨rfl, hsz, hP, hK, hD0⟩ := hv
  have hx := B.exec
  have hb := B.bytes
  have hr := B.returns
  have hts0 := atoms_spec (ws := ws_Fo_changeEnd) B.pre
  have hts : ∀ w ∈ xg_1, w.before _ s = true := fun w h => hts0 w (List.mem_cons_of_mem _ h)
  have hown : s.vm.findClass "PatchStore$Form" = some m.cls := findClass_of_methodNamed B.named
  have hlocks := B.notSynchronized
  subst hsz
  have hD := hD0.self (sz := s.heap.size)
  generalize hAe : va_A [(h, .inr (2, [.ref sk])), (sk, .inr (9, [.ref b_y, sk_from, sk_firstDependency, sk_firstChange, sk_dependencies, sk_hashes, sk_byHash, sk_leansOn, sk_leantBy, sk_changes, sk_lines, sk_patches])), (b_y, .inl (cB, 290000, .inl f))] s.heap.size = A at hD ⊢
  have hA : ∀ q : Nat, s.heap.size ≤ q → A q := fun q h => by rw [← hAe]; exact Or.inr h
  have hS : va_S A s.heap s.heap [] := va_S.rf
  have hl := lv_entry ([.ref h, .int (nI a), .int (nI en)]) (n := 3) (Nat.le_of_ble_eq_true rfl)
  rw [lg_entry_eq]
  generalize (lg_sl ([.ref h, .int (nI a), .int (nI en)]) ++ List.replicate (3 - (lg_sl ([.ref h, .int (nI a), .int (nI en)])).length) Slot.unset).toArray = ls at hl ⊢
  have hl : lv_has ls 3 [(0, .ref h), (1, .int (nI a)), (2, .int (nI en))] := hl
  generalize hQe : MQ _ _ _ _ _ _ _ = Q
  refine lv_aload_n hx hb d_Fo_changeEnd_0 rfl (lv_at hl 0 rfl) ?_
  refine va_get (D := (dC, dI)) (ci := 2) (v := .ref sk) (C := R_Fo) (T := F_Fo) (N := 1) hx hb hts i_Fo hown hK hP 0 rfl rfl 0 (by decide) (hts _ gw_280) (fun _ h9 => h9) rfl d_Fo_changeEnd_1 ?_
  refine va_get (D := (dC, dI)) (ci := 9) (v := .ref b_y) (C := R_St) (T := F_St) (N := 12) hx hb hts i_St hown hK hP 1 rfl rfl 0 (by decide) (hts _ gw_186) (fun _ h9 => h9) rfl d_Fo_changeEnd_4 ?_
  refine lv_iload_n hx hb d_Fo_changeEnd_7 rfl (lv_at hl 1 rfl) ?_
  refine va_bald hx hb hK hP 2 1 rfl rfl (vp_in_nI (by omega) (by omega)) d_Fo_changeEnd_8 ?_
  rw [show (nI a).toNatClampNeg = a from nI_clamp (by omega)]
  rcases pk_ix (f a) (n := 5) (by decide) with hs | hs | ⟨j_9, hj, hje⟩
  · refine lv_tableOut (tgt := 102) hx hb d_Fo_changeEnd_9 (Or.inl (by have := Int32.lt_iff_toInt_lt.mp hs; simpa using this)) (by decide) ?_
    have hno : ∀ q, ¬ chR f en a q := fun q z => by
      rcases z with ⟨z, -⟩ | ⟨z, -⟩ | ⟨z, -⟩ | ⟨z, -⟩ | ⟨z, -⟩ <;> (rw [z] at hs; exact absurd hs (by decide))
    refine lv_iconst (v := (-1)) hx hb d_Fo_changeEnd_102 (by decide) ?_
    rw [← hQe]
    exact W.iret (v := (-1)) hx hb hr (fun t ht hW => ⟨⟨_, 0, rfl, Or.inr ⟨rfl, hno⟩, by rw [ht]; exact hP, va_K.moved hW.alike hK, hD⟩, hS.F ht⟩) hS.2.2 d_Fo_changeEnd_103
  · refine lv_tableOut (tgt := 102) hx hb d_Fo_changeEnd_9 (Or.inr (by have h9 := Int32.le_iff_toInt_le.mp hs; rw [nI_toInt (by decide)] at h9; omega)) (by decide) ?_
    have hno : ∀ q, ¬ chR f en a q := fun q z => by
      rcases z with ⟨z, -⟩ | ⟨z, -⟩ | ⟨z, -⟩ | ⟨z, -⟩ | ⟨z, -⟩ <;> (rw [z] at hs; exact absurd hs (by decide))
    refine lv_iconst (v := (-1)) hx hb d_Fo_changeEnd_102 (by decide) ?_
    rw [← hQe]
    exact W.iret (v := (-1)) hx hb hr (fun t ht hW => ⟨⟨_, 0, rfl, Or.inr ⟨rfl, hno⟩, by rw [ht]; exact hP, va_K.moved hW.alike hK, hD⟩, hS.F ht⟩) hS.2.2 d_Fo_changeEnd_103
  · rcases (show j_9 = 0 ∨ j_9 = 1 ∨ j_9 = 2 ∨ j_9 = 3 ∨ j_9 = 4 by omega) with rfl | rfl | rfl | rfl | rfl
    · rw [hje]
      refine lv_tableIn (tgt := 44) (off := 35) hx hb d_Fo_changeEnd_9 (by decide) (by decide) (by decide) (by decide) ?_
      refine lv_aload_n hx hb d_Fo_changeEnd_44 rfl (lv_at hl 0 rfl) ?_
      refine lv_iload_n hx hb d_Fo_changeEnd_45 rfl (lv_at hl 1 rfl) ?_
      refine lv_iconst (v := 5) hx hb d_Fo_changeEnd_46 (by decide) ?_
      refine lv_iadd hx hb d_Fo_changeEnd_47 ?_
      refine lv_topi (fun x_1 ex_1 => ?_)
      obtain rfl : x_1 = nI (a + 5) := by rw [ex_1]; first | done | (exact nI_add _ _)
      refine lv_iload_n hx hb d_Fo_changeEnd_48 rfl (lv_at hl 2 rfl) ?_
      refine lv_iconst (v := 1) hx hb d_Fo_changeEnd_49 (by decide) ?_
      have hPc := hP.sub (ws' := [(h, .inr (2, [.ref sk])), (sk, .inr (9, [.ref b_y, sk_from, sk_firstDependency, sk_firstChange, sk_dependencies, sk_hashes, sk_byHash, sk_leansOn, sk_leantBy, sk_changes, sk_lines, sk_patches])), (b_y, .inl (cB, 290000, .inl f))]) [0, 1, 2] rfl
      have hDc := hD.sub (ws' := [(h, .inr (2, [.ref sk])), (sk, .inr (9, [.ref b_y, sk_from, sk_firstDependency, sk_firstChange, sk_dependencies, sk_hashes, sk_byHash, sk_leansOn, sk_leantBy, sk_changes, sk_lines, sk_patches])), (b_y, .inl (cB, 290000, .inl f))]) [0, 1, 2] (by decide) rfl
      have hFc := va_free (wc := [(h, .inr (2, [.ref sk])), (sk, .inr (9, [.ref b_y, sk_from, sk_firstDependency, sk_firstChange, sk_dependencies, sk_hashes, sk_byHash, sk_leansOn, sk_leantBy, sk_changes, sk_lines, sk_patches])), (b_y, .inl (cB, 290000, .inl f))]) hD hS hA [0, 1, 2] rfl
      refine va_calli (va_runV (As := [.int (nI (a + 5)), .int (nI en), .int 1]) (rest := []) ⟨hx, hb, hml, hown, hts⟩ (m_Fo_nameEnd l dC dI cI cB cL cZ cR h sk b_y sk_from sk_firstDependency sk_firstChange sk_dependencies sk_hashes sk_byHash sk_leansOn sk_leantBy sk_changes sk_lines sk_patches f en (a + 5) 1 s.heap.size he (by omega) (by decide)) (cwV 3 hts (xg_V gw_790 gw_792 (xg_p 9 (q := (⟨"PatchStore$Form", "nameEnd", "(III)I"⟩, 1)) (by decide +kernel)) gw_7 gw_793) rfl rfl rfl (by decide +kernel) ⟨Nat.le_of_ble_eq_true rfl, Nat.le_of_ble_eq_true rfl⟩) ⟨xw_blind, va_recv hK hPc (ci := 2) (q0 := 0) rfl rfl, fun U hU hW => ⟨rfl, by rw [hU], by rw [hU]; exact hPc, va_K.moved hW.alike hK, hDc.weaken (fun _ _ _ _ => trivial)⟩⟩ rfl rfl hl.1 rfl (lv_room (Nat.le_of_ble_eq_true rfl)) d_Fo_changeEnd_50 ⟨Nat.le_of_ble_eq_true rfl, Nat.le_of_ble_eq_true rfl⟩) hS (fun q _ h => hFc q h) hFc (fun r9 q0 t H1 locs ht hvm hw hB hz1 hk1 hS => ?_)
      obtain ⟨hP1, hK1, hD1⟩ := hB
      rw [ht] at hP1
      obtain ⟨hP, hD⟩ := va_join (wr := []) (w1 := [(h, .inr (2, [.ref sk])), (sk, .inr (9, [.ref b_y, sk_from, sk_firstDependency, sk_firstChange, sk_dependencies, sk_hashes, sk_byHash, sk_leansOn, sk_leantBy, sk_changes, sk_lines, sk_patches])), (b_y, .inl (cB, 290000, .inl f))]) hP hD [0, 1, 2] [] rfl rfl (by decide) (by decide) hk1 hFc hP1 hD1
      generalize H1 = H at hP hS ⊢
      have hP : va_P (dC, dI) classes [(h, .inr (2, [.ref sk])), (sk, .inr (9, [.ref b_y, sk_from, sk_firstDependency, sk_firstChange, sk_dependencies, sk_hashes, sk_byHash, sk_leansOn, sk_leantBy, sk_changes, sk_lines, sk_patches])), (b_y, .inl (cB, 290000, .inl f))] H := hP
      have hD : va_D A [(h, .inr (2, [.ref sk])), (sk, .inr (9, [.ref b_y, sk_from, sk_firstDependency, sk_firstChange, sk_dependencies, sk_hashes, sk_byHash, sk_leansOn, sk_leantBy, sk_changes, sk_lines, sk_patches])), (b_y, .inl (cB, 290000, .inl f))] := hD
      rcases hw with ⟨hR, rfl⟩ | ⟨rfl, hR⟩
      · have hP : va_P (dC, dI) classes [(h, .inr (2, [.ref sk])), (sk, .inr (9, [.ref b_y, sk_from, sk_firstDependency, sk_firstChange, sk_dependencies, sk_hashes, sk_byHash, sk_leansOn, sk_leantBy, sk_changes, sk_lines, sk_patches])), (b_y, .inl (cB, 290000, .inl f))] H := hP
        have hD : va_D A [(h, .inr (2, [.ref sk])), (sk, .inr (9, [.ref b_y, sk_from, sk_firstDependency, sk_firstChange, sk_dependencies, sk_hashes, sk_byHash, sk_leansOn, sk_leantBy, sk_changes, sk_lines, sk_patches])), (b_y, .inl (cB, 290000, .inl f))] := hD
        rw [← hQe]
        exact W.iret (v := nI q0) hx hb hr (fun t ht hW => ⟨⟨_, q0, rfl, Or.inl ⟨Or.inl ⟨hje, hR⟩, rfl⟩, by rw [ht]; exact hP, va_K.moved hW.alike hK, hD⟩, hS.F ht⟩) hS.2.2 d_Fo_changeEnd_53
      · have hP : va_P (dC, dI) classes [(h, .inr (2, [.ref sk])), (sk, .inr (9, [.ref b_y, sk_from, sk_firstDependency, sk_firstChange, sk_dependencies, sk_hashes, sk_byHash, sk_leansOn, sk_leantBy, sk_changes, sk_lines, sk_patches])), (b_y, .inl (cB, 290000, .inl f))] H := hP
        have hD : va_D A [(h, .inr (2, [.ref sk])), (sk, .inr (9, [.ref b_y, sk_from, sk_firstDependency, sk_firstChange, sk_dependencies, sk_hashes, sk_byHash, sk_leansOn, sk_leantBy, sk_changes, sk_lines, sk_patches])), (b_y, .inl (cB, 290000, .inl f))] := hD
        rw [← hQe]
        exact W.iret (v := (-1)) hx hb hr (fun t ht hW => ⟨⟨_, 0, rfl, Or.inr ⟨rfl, fun q z => hR q (chR_0 hje z)⟩, by rw [ht]; exact hP, va_K.moved hW.alike hK, hD⟩, hS.F ht⟩) hS.2.2 d_Fo_changeEnd_53
    · rw [hje]
      refine lv_tableIn (tgt := 54) (off := 45) hx hb d_Fo_changeEnd_9 (by decide) (by decide) (by decide) (by decide) ?_
      refine lv_aload_n hx hb d_Fo_changeEnd_54 rfl (lv_at hl 0 rfl) ?_
      refine lv_iload_n hx hb d_Fo_changeEnd_55 rfl (lv_at hl 1 rfl) ?_
      refine lv_iload_n hx hb d_Fo_changeEnd_56 rfl (lv_at hl 2 rfl) ?_
      have hPc := hP.sub (ws' := [(h, .inr (2, [.ref sk])), (sk, .inr (9, [.ref b_y, sk_from, sk_firstDependency, sk_firstChange, sk_dependencies, sk_hashes, sk_byHash, sk_leansOn, sk_leantBy, sk_changes, sk_lines, sk_patches])), (b_y, .inl (cB, 290000, .inl f))]) [0, 1, 2] rfl
      have hDc := hD.sub (ws' := [(h, .inr (2, [.ref sk])), (sk, .inr (9, [.ref b_y, sk_from, sk_firstDependency, sk_firstChange, sk_dependencies, sk_hashes, sk_byHash, sk_leansOn, sk_leantBy, sk_changes, sk_lines, sk_patches])), (b_y, .inl (cB, 290000, .inl f))]) [0, 1, 2] (by decide) rfl
      have hFc := va_free (wc := [(h, .inr (2, [.ref sk])), (sk, .inr (9, [.ref b_y, sk_from, sk_firstDependency, sk_firstChange, sk_dependencies, sk_hashes, sk_byHash, sk_leansOn, sk_leantBy, sk_changes, sk_lines, sk_patches])), (b_y, .inl (cB, 290000, .inl f))]) hD hS hA [0, 1, 2] rfl
      refine va_calli (va_runV (As := [.int (nI a), .int (nI en)]) (rest := []) ⟨hx, hb, hml, hown, hts⟩ (m_Fo_callEnd l dC dI cI cB cL cZ cR h sk b_y sk_from sk_firstDependency sk_firstChange sk_dependencies sk_hashes sk_byHash sk_leansOn sk_leantBy sk_changes sk_lines sk_patches f en a s.heap.size he ha) (cwV 2 hts (xg_V gw_795 gw_797 (xg_p 10 (q := (⟨"PatchStore$Form", "callEnd", "(II)I"⟩, 1)) (by decide +kernel)) gw_7 gw_798) rfl rfl rfl (by decide +kernel) ⟨Nat.le_of_ble_eq_true rfl, Nat.le_of_ble_eq_true rfl⟩) ⟨xw_blind, va_recv hK hPc (ci := 2) (q0 := 0) rfl rfl, fun U hU hW => ⟨rfl, by rw [hU], by rw [hU]; exact hPc, va_K.moved hW.alike hK, hDc.weaken (fun _ _ _ _ => trivial)⟩⟩ rfl rfl hl.1 rfl (lv_room (Nat.le_of_ble_eq_true rfl)) d_Fo_changeEnd_57 ⟨Nat.le_of_ble_eq_true rfl, Nat.le_of_ble_eq_true rfl⟩) hS (fun q _ h => hFc q h) hFc (fun r9 q0 t H1 locs ht hvm hw hB hz1 hk1 hS => ?_)
      obtain ⟨hP1, hK1, hD1⟩ := hB
      rw [ht] at hP1
      obtain ⟨hP, hD⟩ := va_join (wr := []) (w1 := [(h, .inr (2, [.ref sk])), (sk, .inr (9, [.ref b_y, sk_from, sk_firstDependency, sk_firstChange, sk_dependencies, sk_hashes, sk_byHash, sk_leansOn, sk_leantBy, sk_changes, sk_lines, sk_patches])), (b_y, .inl (cB, 290000, .inl f))]) hP hD [0, 1, 2] [] rfl rfl (by decide) (by decide) hk1 hFc hP1 hD1
      generalize H1 = H at hP hS ⊢
      have hP : va_P (dC, dI) classes [(h, .inr (2, [.ref sk])), (sk, .inr (9, [.ref b_y, sk_from, sk_firstDependency, sk_firstChange, sk_dependencies, sk_hashes, sk_byHash, sk_leansOn, sk_leantBy, sk_changes, sk_lines, sk_patches])), (b_y, .inl (cB, 290000, .inl f))] H := hP
      have hD : va_D A [(h, .inr (2, [.ref sk])), (sk, .inr (9, [.ref b_y, sk_from, sk_firstDependency, sk_firstChange, sk_dependencies, sk_hashes, sk_byHash, sk_leansOn, sk_leantBy, sk_changes, sk_lines, sk_patches])), (b_y, .inl (cB, 290000, .inl f))] := hD
      rcases hw with ⟨hR, rfl⟩ | ⟨rfl, hR⟩
      · have hP : va_P (dC, dI) classes [(h, .inr (2, [.ref sk])), (sk, .inr (9, [.ref b_y, sk_from, sk_firstDependency, sk_firstChange, sk_dependencies, sk_hashes, sk_byHash, sk_leansOn, sk_leantBy, sk_changes, sk_lines, sk_patches])), (b_y, .inl (cB, 290000, .inl f))] H := hP
        have hD : va_D A [(h, .inr (2, [.ref sk])), (sk, .inr (9, [.ref b_y, sk_from, sk_firstDependency, sk_firstChange, sk_dependencies, sk_hashes, sk_byHash, sk_leansOn, sk_leantBy, sk_changes, sk_lines, sk_patches])), (b_y, .inl (cB, 290000, .inl f))] := hD
        rw [← hQe]
        exact W.iret (v := nI q0) hx hb hr (fun t ht hW => ⟨⟨_, q0, rfl, Or.inl ⟨Or.inr (Or.inl ⟨hje, hR⟩), rfl⟩, by rw [ht]; exact hP, va_K.moved hW.alike hK, hD⟩, hS.F ht⟩) hS.2.2 d_Fo_changeEnd_60
      · have hP : va_P (dC, dI) classes [(h, .inr (2, [.ref sk])), (sk, .inr (9, [.ref b_y, sk_from, sk_firstDependency, sk_firstChange, sk_dependencies, sk_hashes, sk_byHash, sk_leansOn, sk_leantBy, sk_changes, sk_lines, sk_patches])), (b_y, .inl (cB, 290000, .inl f))] H := hP
        have hD : va_D A [(h, .inr (2, [.ref sk])), (sk, .inr (9, [.ref b_y, sk_from, sk_firstDependency, sk_firstChange, sk_dependencies, sk_hashes, sk_byHash, sk_leansOn, sk_leantBy, sk_changes, sk_lines, sk_patches])), (b_y, .inl (cB, 290000, .inl f))] := hD
        rw [← hQe]
        exact W.iret (v := (-1)) hx hb hr (fun t ht hW => ⟨⟨_, 0, rfl, Or.inr ⟨rfl, fun q z => hR q (chR_1 hje z)⟩, by rw [ht]; exact hP, va_K.moved hW.alike hK, hD⟩, hS.F ht⟩) hS.2.2 d_Fo_changeEnd_60
    · rw [hje]
      refine lv_tableIn (tgt := 61) (off := 52) hx hb d_Fo_changeEnd_9 (by decide) (by decide) (by decide) (by decide) ?_
      refine lv_aload_n hx hb d_Fo_changeEnd_61 rfl (lv_at hl 0 rfl) ?_
      refine lv_iload_n hx hb d_Fo_changeEnd_62 rfl (lv_at hl 1 rfl) ?_
      refine lv_iload_n hx hb d_Fo_changeEnd_63 rfl (lv_at hl 2 rfl) ?_
      have hPc := hP.sub (ws' := [(h, .inr (2, [.ref sk])), (sk, .inr (9, [.ref b_y, sk_from, sk_firstDependency, sk_firstChange, sk_dependencies, sk_hashes, sk_byHash, sk_leansOn, sk_leantBy, sk_changes, sk_lines, sk_patches])), (b_y, .inl (cB, 290000, .inl f))]) [0, 1, 2] rfl
      have hDc := hD.sub (ws' := [(h, .inr (2, [.ref sk])), (sk, .inr (9, [.ref b_y, sk_from, sk_firstDependency, sk_firstChange, sk_dependencies, sk_hashes, sk_byHash, sk_leansOn, sk_leantBy, sk_changes, sk_lines, sk_patches])), (b_y, .inl (cB, 290000, .inl f))]) [0, 1, 2] (by decide) rfl
      have hFc := va_free (wc := [(h, .inr (2, [.ref sk])), (sk, .inr (9, [.ref b_y, sk_from, sk_firstDependency, sk_firstChange, sk_dependencies, sk_hashes, sk_byHash, sk_leansOn, sk_leantBy, sk_changes, sk_lines, sk_patches])), (b_y, .inl (cB, 290000, .inl f))]) hD hS hA [0, 1, 2] rfl
      refine va_calli (va_runV (As := [.int (nI a), .int (nI en)]) (rest := []) ⟨hx, hb, hml, hown, hts⟩ (m_Fo_insertEnd l dC dI cI cB cL cZ cR h sk b_y sk_from sk_firstDependency sk_firstChange sk_dependencies sk_hashes sk_byHash sk_leansOn sk_leantBy sk_changes sk_lines sk_patches f en a s.heap.size he ha) (cwV 2 hts (xg_V gw_799 gw_801 (xg_p 11 (q := (⟨"PatchStore$Form", "insertEnd", "(II)I"⟩, 1)) (by decide +kernel)) gw_7 gw_802) rfl rfl rfl (by decide +kernel) ⟨Nat.le_of_ble_eq_true rfl, Nat.le_of_ble_eq_true rfl⟩) ⟨xw_blind, va_recv hK hPc (ci := 2) (q0 := 0) rfl rfl, fun U hU hW => ⟨rfl, by rw [hU], by rw [hU]; exact hPc, va_K.moved hW.alike hK, hDc.weaken (fun _ _ _ _ => trivial)⟩⟩ rfl rfl hl.1 rfl (lv_room (Nat.le_of_ble_eq_true rfl)) d_Fo_changeEnd_64 ⟨Nat.le_of_ble_eq_true rfl, Nat.le_of_ble_eq_true rfl⟩) hS (fun q _ h => hFc q h) hFc (fun r9 q0 t H1 locs ht hvm hw hB hz1 hk1 hS => ?_)
      obtain ⟨hP1, hK1, hD1⟩ := hB
      rw [ht] at hP1
      obtain ⟨hP, hD⟩ := va_join (wr := []) (w1 := [(h, .inr (2, [.ref sk])), (sk, .inr (9, [.ref b_y, sk_from, sk_firstDependency, sk_firstChange, sk_dependencies, sk_hashes, sk_byHash, sk_leansOn, sk_leantBy, sk_changes, sk_lines, sk_patches])), (b_y, .inl (cB, 290000, .inl f))]) hP hD [0, 1, 2] [] rfl rfl (by decide) (by decide) hk1 hFc hP1 hD1
      generalize H1 = H at hP hS ⊢
      have hP : va_P (dC, dI) classes [(h, .inr (2, [.ref sk])), (sk, .inr (9, [.ref b_y, sk_from, sk_firstDependency, sk_firstChange, sk_dependencies, sk_hashes, sk_byHash, sk_leansOn, sk_leantBy, sk_changes, sk_lines, sk_patches])), (b_y, .inl (cB, 290000, .inl f))] H := hP
      have hD : va_D A [(h, .inr (2, [.ref sk])), (sk, .inr (9, [.ref b_y, sk_from, sk_firstDependency, sk_firstChange, sk_dependencies, sk_hashes, sk_byHash, sk_leansOn, sk_leantBy, sk_changes, sk_lines, sk_patches])), (b_y, .inl (cB, 290000, .inl f))] := hD
      rcases hw with ⟨hR, rfl⟩ | ⟨rfl, hR⟩
      · have hP : va_P (dC, dI) classes [(h, .inr (2, [.ref sk])), (sk, .inr (9, [.ref b_y, sk_from, sk_firstDependency, sk_firstChange, sk_dependencies, sk_hashes, sk_byHash, sk_leansOn, sk_leantBy, sk_changes, sk_lines, sk_patches])), (b_y, .inl (cB, 290000, .inl f))] H := hP
        have hD : va_D A [(h, .inr (2, [.ref sk])), (sk, .inr (9, [.ref b_y, sk_from, sk_firstDependency, sk_firstChange, sk_dependencies, sk_hashes, sk_byHash, sk_leansOn, sk_leantBy, sk_changes, sk_lines, sk_patches])), (b_y, .inl (cB, 290000, .inl f))] := hD
        rw [← hQe]
        exact W.iret (v := nI q0) hx hb hr (fun t ht hW => ⟨⟨_, q0, rfl, Or.inl ⟨Or.inr (Or.inr (Or.inl ⟨hje, hR⟩)), rfl⟩, by rw [ht]; exact hP, va_K.moved hW.alike hK, hD⟩, hS.F ht⟩) hS.2.2 d_Fo_changeEnd_67
      · have hP : va_P (dC, dI) classes [(h, .inr (2, [.ref sk])), (sk, .inr (9, [.ref b_y, sk_from, sk_firstDependency, sk_firstChange, sk_dependencies, sk_hashes, sk_byHash, sk_leansOn, sk_leantBy, sk_changes, sk_lines, sk_patches])), (b_y, .inl (cB, 290000, .inl f))] H := hP
        have hD : va_D A [(h, .inr (2, [.ref sk])), (sk, .inr (9, [.ref b_y, sk_from, sk_firstDependency, sk_firstChange, sk_dependencies, sk_hashes, sk_byHash, sk_leansOn, sk_leantBy, sk_changes, sk_lines, sk_patches])), (b_y, .inl (cB, 290000, .inl f))] := hD
        rw [← hQe]
        exact W.iret (v := (-1)) hx hb hr (fun t ht hW => ⟨⟨_, 0, rfl, Or.inr ⟨rfl, fun q z => hR q (chR_2 hje z)⟩, by rw [ht]; exact hP, va_K.moved hW.alike hK, hD⟩, hS.F ht⟩) hS.2.2 d_Fo_changeEnd_67
    · rw [hje]
      refine lv_tableIn (tgt := 68) (off := 59) hx hb d_Fo_changeEnd_9 (by decide) (by decide) (by decide) (by decide) ?_
      refine lv_iload_n hx hb d_Fo_changeEnd_68 rfl (lv_at hl 1 rfl) ?_
      refine lv_bipush (v := 7) hx hb d_Fo_changeEnd_69 (by decide) ?_
      refine lv_iadd hx hb d_Fo_changeEnd_71 ?_
      refine lv_topi (fun x_2 ex_2 => ?_)
      obtain rfl : x_2 = nI (a + 7) := by rw [ex_2]; first | done | (exact nI_add _ _)
      refine lv_iload_n hx hb d_Fo_changeEnd_72 rfl (lv_at hl 2 rfl) ?_
      refine lv_icmp_gt (tgt := 83) hx hb d_Fo_changeEnd_73 (by decide) (fun c_73 => ?_) (fun c_73 => ?_)
      · have n_73 : en < (a + 7) := (nI_ltI (a := en) (b := (a + 7)) (by omega) (by omega)).mp c_73
        refine lv_iconst (v := (-1)) hx hb d_Fo_changeEnd_83 (by decide) ?_
        rw [← hQe]
        exact W.iret (v := (-1)) hx hb hr (fun t ht hW => ⟨⟨_, 0, rfl, Or.inr ⟨rfl, fun q z => absurd (chR_3 hje z).1 (by omega)⟩, by rw [ht]; exact hP, va_K.moved hW.alike hK, hD⟩, hS.F ht⟩) hS.2.2 d_Fo_changeEnd_84
      · have n_73 : (a + 7) ≤ en := Nat.le_of_not_lt (fun z => c_73 ((nI_ltI (a := en) (b := (a + 7)) (by omega) (by omega)).mpr z))
        refine lv_iload_n hx hb d_Fo_changeEnd_76 rfl (lv_at hl 1 rfl) ?_
        refine lv_bipush (v := 7) hx hb d_Fo_changeEnd_77 (by decide) ?_
        refine lv_iadd hx hb d_Fo_changeEnd_79 ?_
        refine lv_topi (fun x_3 ex_3 => ?_)
        obtain rfl : x_3 = nI (a + 7) := by rw [ex_3]; first | done | (exact nI_add _ _)
        refine lv_goto (tgt := 84) hx hb d_Fo_changeEnd_80 (by decide) ?_
        rw [← hQe]
        exact W.iret (v := nI (a + 7)) hx hb hr (fun t ht hW => ⟨⟨_, (a + 7), rfl, Or.inl ⟨Or.inr (Or.inr (Or.inr (Or.inl ⟨hje, n_73, rfl⟩))), rfl⟩, by rw [ht]; exact hP, va_K.moved hW.alike hK, hD⟩, hS.F ht⟩) hS.2.2 d_Fo_changeEnd_84
    · rw [hje]
      refine lv_tableIn (tgt := 85) (off := 76) hx hb d_Fo_changeEnd_9 (by decide) (by decide) (by decide) (by decide) ?_
      refine lv_iload_n hx hb d_Fo_changeEnd_85 rfl (lv_at hl 1 rfl) ?_
      refine lv_bipush (v := 13) hx hb d_Fo_changeEnd_86 (by decide) ?_
      refine lv_iadd hx hb d_Fo_changeEnd_88 ?_
      refine lv_topi (fun x_4 ex_4 => ?_)
      obtain rfl : x_4 = nI (a + 13) := by rw [ex_4]; first | done | (exact nI_add _ _)
      refine lv_iload_n hx hb d_Fo_changeEnd_89 rfl (lv_at hl 2 rfl) ?_
      refine lv_icmp_gt (tgt := 100) hx hb d_Fo_changeEnd_90 (by decide) (fun c_90 => ?_) (fun c_90 => ?_)
      · have n_90 : en < (a + 13) := (nI_ltI (a := en) (b := (a + 13)) (by omega) (by omega)).mp c_90
        refine lv_iconst (v := (-1)) hx hb d_Fo_changeEnd_100 (by decide) ?_
        rw [← hQe]
        exact W.iret (v := (-1)) hx hb hr (fun t ht hW => ⟨⟨_, 0, rfl, Or.inr ⟨rfl, fun q z => absurd (chR_4 hje z).1 (by omega)⟩, by rw [ht]; exact hP, va_K.moved hW.alike hK, hD⟩, hS.F ht⟩) hS.2.2 d_Fo_changeEnd_101
      · have n_90 : (a + 13) ≤ en := Nat.le_of_not_lt (fun z => c_90 ((nI_ltI (a := en) (b := (a + 13)) (by omega) (by omega)).mpr z))
        refine lv_iload_n hx hb d_Fo_changeEnd_93 rfl (lv_at hl 1 rfl) ?_
        refine lv_bipush (v := 13) hx hb d_Fo_changeEnd_94 (by decide) ?_
        refine lv_iadd hx hb d_Fo_changeEnd_96 ?_
        refine lv_topi (fun x_5 ex_5 => ?_)
        obtain rfl : x_5 = nI (a + 13) := by rw [ex_5]; first | done | (exact nI_add _ _)
        refine lv_goto (tgt := 101) hx hb d_Fo_changeEnd_97 (by decide) ?_
        rw [← hQe]
        exact W.iret (v := nI (a + 13)) hx hb hr (fun t ht hW => ⟨⟨_, (a + 13), rfl, Or.inl ⟨Or.inr (Or.inr (Or.inr (Or.inr ⟨hje, n_90, rfl⟩))), rfl⟩, by rw [ht]; exact hP, va_K.moved hW.alike hK, hD⟩, hS.F ht⟩) hS.2.2 d_Fo_changeEnd_101
