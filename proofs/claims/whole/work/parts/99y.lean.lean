/-! 99y.lean.lean.txt -/
theorem gw_1890 : (Jvm.Cond.methodLink "PatchStoreModel" (382 : Nat) ({ cls := "PatchStoreModel", name := "order", desc := "(II)I" } : Jvm.MethodName)) ∈ xg_1 := xg_s8 210 rfl rfl
theorem gw_1892 : (Jvm.Cond.instanceMethod ({ cls := "PatchStoreModel", name := "order", desc := "(II)I" } : Jvm.MethodName)) ∈ xg_1 := xg_s8 212 rfl rfl
theorem gw_1893 : (Jvm.Cond.code ({ cls := "PatchStoreModel", name := "order", desc := "(II)I" } : Jvm.MethodName) prog_14_method_9_code (3 : Nat) (Option.some Jvm.ClassFile.FieldType.int)) ∈ xg_1 := xg_s8 213 rfl rfl
theorem gw_2267 : (Jvm.Cond.methodLink "PatchStoreModel" (373 : Nat) ({ cls := "java/util/Arrays", name := "fill", desc := "([ZZ)V" } : Jvm.MethodName)) ∈ xg_1 := xg_s10 107 rfl rfl
theorem gw_2268 : (Jvm.Cond.static ({ cls := "java/util/Arrays", name := "fill", desc := "([ZZ)V" } : Jvm.MethodName)) ∈ xg_1 := xg_s10 108 rfl rfl
theorem gw_2269 : (Jvm.Cond.code ({ cls := "java/util/Arrays", name := "fill", desc := "([ZZ)V" } : Jvm.MethodName) prog_36_method_111_code (4 : Nat) (Option.none : Option Jvm.ClassFile.FieldType)) ∈ xg_1 := xg_s10 109 rfl rfl
def y_Ar_fill2 : MethodName := ⟨"java/util/Arrays", "fill", "([ZZ)V"⟩
abbrev c_Ar_fill2 : Cond := (Jvm.Cond.code ({ cls := "java/util/Arrays", name := "fill", desc := "([ZZ)V" } : Jvm.MethodName) prog_36_method_111_code (4 : Nat) (Option.none : Option Jvm.ClassFile.FieldType))
abbrev ws_Ar_fill2 : List Cond := c_Ar_fill2 :: xg_1
theorem d_Ar_fill2_0 : decode prog_36_method_111_code 0 = .ok (.iconst 0, 1) := by decide +kernel
theorem d_Ar_fill2_1 : decode prog_36_method_111_code 1 = .ok (.istore_n 2, 1) := by decide +kernel
theorem d_Ar_fill2_2 : decode prog_36_method_111_code 2 = .ok (.aload_n 0, 1) := by decide +kernel
theorem d_Ar_fill2_3 : decode prog_36_method_111_code 3 = .ok (.arraylength, 1) := by decide +kernel
theorem d_Ar_fill2_4 : decode prog_36_method_111_code 4 = .ok (.istore_n 3, 1) := by decide +kernel
theorem d_Ar_fill2_5 : decode prog_36_method_111_code 5 = .ok (.iload_n 2, 1) := by decide +kernel
theorem d_Ar_fill2_6 : decode prog_36_method_111_code 6 = .ok (.iload_n 3, 1) := by decide +kernel
theorem d_Ar_fill2_7 : decode prog_36_method_111_code 7 = .ok (.if_icmp .ge 13, 3) := by decide +kernel
theorem d_Ar_fill2_10 : decode prog_36_method_111_code 10 = .ok (.aload_n 0, 1) := by decide +kernel
theorem d_Ar_fill2_11 : decode prog_36_method_111_code 11 = .ok (.iload_n 2, 1) := by decide +kernel
theorem d_Ar_fill2_12 : decode prog_36_method_111_code 12 = .ok (.iload_n 1, 1) := by decide +kernel
theorem d_Ar_fill2_13 : decode prog_36_method_111_code 13 = .ok (.bastore, 1) := by decide +kernel
theorem d_Ar_fill2_14 : decode prog_36_method_111_code 14 = .ok (.iinc 2 1, 3) := by decide +kernel
theorem d_Ar_fill2_17 : decode prog_36_method_111_code 17 = .ok (.goto (-12), 3) := by decide +kernel
theorem d_Ar_fill2_20 : decode prog_36_method_111_code 20 = .ok (.return_, 1) := by decide +kernel
def y_Md_keyOrder : MethodName := ⟨"PatchStoreModel", "keyOrder", "(II)I"⟩
abbrev c_Md_keyOrder : Cond := (Jvm.Cond.code ({ cls := "PatchStoreModel", name := "keyOrder", desc := "(II)I" } : Jvm.MethodName) prog_14_method_36_code (3 : Nat) (Option.some Jvm.ClassFile.FieldType.int))
abbrev ws_Md_keyOrder : List Cond := c_Md_keyOrder :: xg_1
theorem d_Md_keyOrder_0 : decode prog_14_method_36_code 0 = .ok (.aload_n 0, 1) := by decide +kernel
theorem d_Md_keyOrder_1 : decode prog_14_method_36_code 1 = .ok (.getfield 59, 3) := by decide +kernel
theorem d_Md_keyOrder_4 : decode prog_14_method_36_code 4 = .ok (.iload_n 1, 1) := by decide +kernel
theorem d_Md_keyOrder_5 : decode prog_14_method_36_code 5 = .ok (.iaload, 1) := by decide +kernel
theorem d_Md_keyOrder_6 : decode prog_14_method_36_code 6 = .ok (.aload_n 0, 1) := by decide +kernel
theorem d_Md_keyOrder_7 : decode prog_14_method_36_code 7 = .ok (.getfield 59, 3) := by decide +kernel
theorem d_Md_keyOrder_10 : decode prog_14_method_36_code 10 = .ok (.iload_n 2, 1) := by decide +kernel
theorem d_Md_keyOrder_11 : decode prog_14_method_36_code 11 = .ok (.iaload, 1) := by decide +kernel
theorem d_Md_keyOrder_12 : decode prog_14_method_36_code 12 = .ok (.if_icmp .eq 20, 3) := by decide +kernel
theorem d_Md_keyOrder_15 : decode prog_14_method_36_code 15 = .ok (.aload_n 0, 1) := by decide +kernel
theorem d_Md_keyOrder_16 : decode prog_14_method_36_code 16 = .ok (.aload_n 0, 1) := by decide +kernel
theorem d_Md_keyOrder_17 : decode prog_14_method_36_code 17 = .ok (.getfield 59, 3) := by decide +kernel
theorem d_Md_keyOrder_20 : decode prog_14_method_36_code 20 = .ok (.iload_n 1, 1) := by decide +kernel
theorem d_Md_keyOrder_21 : decode prog_14_method_36_code 21 = .ok (.iaload, 1) := by decide +kernel
theorem d_Md_keyOrder_22 : decode prog_14_method_36_code 22 = .ok (.aload_n 0, 1) := by decide +kernel
theorem d_Md_keyOrder_23 : decode prog_14_method_36_code 23 = .ok (.getfield 59, 3) := by decide +kernel
theorem d_Md_keyOrder_26 : decode prog_14_method_36_code 26 = .ok (.iload_n 2, 1) := by decide +kernel
theorem d_Md_keyOrder_27 : decode prog_14_method_36_code 27 = .ok (.iaload, 1) := by decide +kernel
theorem d_Md_keyOrder_28 : decode prog_14_method_36_code 28 = .ok (.invokevirtual 382, 3) := by decide +kernel
theorem d_Md_keyOrder_31 : decode prog_14_method_36_code 31 = .ok (.ireturn, 1) := by decide +kernel
theorem d_Md_keyOrder_32 : decode prog_14_method_36_code 32 = .ok (.iload_n 1, 1) := by decide +kernel
theorem d_Md_keyOrder_33 : decode prog_14_method_36_code 33 = .ok (.iload_n 2, 1) := by decide +kernel
theorem d_Md_keyOrder_34 : decode prog_14_method_36_code 34 = .ok (.isub, 1) := by decide +kernel
theorem d_Md_keyOrder_35 : decode prog_14_method_36_code 35 = .ok (.ireturn, 1) := by decide +kernel
def y_Md_isThere : MethodName := ⟨"PatchStoreModel", "isThere", "(II)Z"⟩
abbrev c_Md_isThere : Cond := (Jvm.Cond.code ({ cls := "PatchStoreModel", name := "isThere", desc := "(II)Z" } : Jvm.MethodName) prog_14_method_35_code (5 : Nat) (Option.some Jvm.ClassFile.FieldType.boolean))
abbrev ws_Md_isThere : List Cond := c_Md_isThere :: xg_1
theorem d_Md_isThere_0 : decode prog_14_method_35_code 0 = .ok (.aload_n 0, 1) := by decide +kernel
theorem d_Md_isThere_1 : decode prog_14_method_35_code 1 = .ok (.getfield 122, 3) := by decide +kernel
theorem d_Md_isThere_4 : decode prog_14_method_35_code 4 = .ok (.iload_n 1, 1) := by decide +kernel
theorem d_Md_isThere_5 : decode prog_14_method_35_code 5 = .ok (.aaload, 1) := by decide +kernel
theorem d_Md_isThere_6 : decode prog_14_method_35_code 6 = .ok (.aload_n 0, 1) := by decide +kernel
theorem d_Md_isThere_7 : decode prog_14_method_35_code 7 = .ok (.getfield 59, 3) := by decide +kernel
theorem d_Md_isThere_10 : decode prog_14_method_35_code 10 = .ok (.iload_n 2, 1) := by decide +kernel
theorem d_Md_isThere_11 : decode prog_14_method_35_code 11 = .ok (.iaload, 1) := by decide +kernel
theorem d_Md_isThere_12 : decode prog_14_method_35_code 12 = .ok (.baload, 1) := by decide +kernel
theorem d_Md_isThere_13 : decode prog_14_method_35_code 13 = .ok (.ifCond .eq 12, 3) := by decide +kernel
theorem d_Md_isThere_16 : decode prog_14_method_35_code 16 = .ok (.aload_n 0, 1) := by decide +kernel
theorem d_Md_isThere_17 : decode prog_14_method_35_code 17 = .ok (.getfield 74, 3) := by decide +kernel
theorem d_Md_isThere_20 : decode prog_14_method_35_code 20 = .ok (.iload_n 2, 1) := by decide +kernel
theorem d_Md_isThere_21 : decode prog_14_method_35_code 21 = .ok (.iaload, 1) := by decide +kernel
theorem d_Md_isThere_22 : decode prog_14_method_35_code 22 = .ok (.ifCond .ne 5, 3) := by decide +kernel
theorem d_Md_isThere_25 : decode prog_14_method_35_code 25 = .ok (.iconst 0, 1) := by decide +kernel
theorem d_Md_isThere_26 : decode prog_14_method_35_code 26 = .ok (.ireturn, 1) := by decide +kernel
theorem d_Md_isThere_27 : decode prog_14_method_35_code 27 = .ok (.iconst 0, 1) := by decide +kernel
theorem d_Md_isThere_28 : decode prog_14_method_35_code 28 = .ok (.istore_n 3, 1) := by decide +kernel
theorem d_Md_isThere_29 : decode prog_14_method_35_code 29 = .ok (.iload_n 3, 1) := by decide +kernel
theorem d_Md_isThere_30 : decode prog_14_method_35_code 30 = .ok (.aload_n 0, 1) := by decide +kernel
theorem d_Md_isThere_31 : decode prog_14_method_35_code 31 = .ok (.getfield 89, 3) := by decide +kernel
theorem d_Md_isThere_34 : decode prog_14_method_35_code 34 = .ok (.if_icmp .ge 93, 3) := by decide +kernel
theorem d_Md_isThere_37 : decode prog_14_method_35_code 37 = .ok (.aload_n 0, 1) := by decide +kernel
theorem d_Md_isThere_38 : decode prog_14_method_35_code 38 = .ok (.getfield 56, 3) := by decide +kernel
theorem d_Md_isThere_41 : decode prog_14_method_35_code 41 = .ok (.iload_n 3, 1) := by decide +kernel
theorem d_Md_isThere_42 : decode prog_14_method_35_code 42 = .ok (.iaload, 1) := by decide +kernel
theorem d_Md_isThere_43 : decode prog_14_method_35_code 43 = .ok (.iconst 1, 1) := by decide +kernel
theorem d_Md_isThere_44 : decode prog_14_method_35_code 44 = .ok (.if_icmp .ne 77, 3) := by decide +kernel
theorem d_Md_isThere_47 : decode prog_14_method_35_code 47 = .ok (.aload_n 0, 1) := by decide +kernel
theorem d_Md_isThere_48 : decode prog_14_method_35_code 48 = .ok (.getfield 62, 3) := by decide +kernel
theorem d_Md_isThere_51 : decode prog_14_method_35_code 51 = .ok (.iload_n 3, 1) := by decide +kernel
theorem d_Md_isThere_52 : decode prog_14_method_35_code 52 = .ok (.iaload, 1) := by decide +kernel
theorem d_Md_isThere_53 : decode prog_14_method_35_code 53 = .ok (.aload_n 0, 1) := by decide +kernel
theorem d_Md_isThere_54 : decode prog_14_method_35_code 54 = .ok (.getfield 62, 3) := by decide +kernel
theorem d_Md_isThere_57 : decode prog_14_method_35_code 57 = .ok (.iload_n 2, 1) := by decide +kernel
theorem d_Md_isThere_58 : decode prog_14_method_35_code 58 = .ok (.iaload, 1) := by decide +kernel
theorem d_Md_isThere_59 : decode prog_14_method_35_code 59 = .ok (.if_icmp .ne 62, 3) := by decide +kernel
theorem d_Md_isThere_62 : decode prog_14_method_35_code 62 = .ok (.aload_n 0, 1) := by decide +kernel
theorem d_Md_isThere_63 : decode prog_14_method_35_code 63 = .ok (.getfield 122, 3) := by decide +kernel
theorem d_Md_isThere_66 : decode prog_14_method_35_code 66 = .ok (.iload_n 1, 1) := by decide +kernel
theorem d_Md_isThere_67 : decode prog_14_method_35_code 67 = .ok (.aaload, 1) := by decide +kernel
theorem d_Md_isThere_68 : decode prog_14_method_35_code 68 = .ok (.aload_n 0, 1) := by decide +kernel
theorem d_Md_isThere_69 : decode prog_14_method_35_code 69 = .ok (.getfield 59, 3) := by decide +kernel
theorem d_Md_isThere_72 : decode prog_14_method_35_code 72 = .ok (.iload_n 3, 1) := by decide +kernel
theorem d_Md_isThere_73 : decode prog_14_method_35_code 73 = .ok (.iaload, 1) := by decide +kernel
theorem d_Md_isThere_74 : decode prog_14_method_35_code 74 = .ok (.baload, 1) := by decide +kernel
theorem d_Md_isThere_75 : decode prog_14_method_35_code 75 = .ok (.ifCond .ne 6, 3) := by decide +kernel
theorem d_Md_isThere_78 : decode prog_14_method_35_code 78 = .ok (.goto 43, 3) := by decide +kernel
theorem d_Md_isThere_81 : decode prog_14_method_35_code 81 = .ok (.iconst 0, 1) := by decide +kernel
theorem d_Md_isThere_82 : decode prog_14_method_35_code 82 = .ok (.istore 4, 2) := by decide +kernel
theorem d_Md_isThere_84 : decode prog_14_method_35_code 84 = .ok (.iload 4, 2) := by decide +kernel
theorem d_Md_isThere_86 : decode prog_14_method_35_code 86 = .ok (.aload_n 0, 1) := by decide +kernel
theorem d_Md_isThere_87 : decode prog_14_method_35_code 87 = .ok (.getfield 80, 3) := by decide +kernel
theorem d_Md_isThere_90 : decode prog_14_method_35_code 90 = .ok (.iload_n 3, 1) := by decide +kernel
theorem d_Md_isThere_91 : decode prog_14_method_35_code 91 = .ok (.iaload, 1) := by decide +kernel
theorem d_Md_isThere_92 : decode prog_14_method_35_code 92 = .ok (.if_icmp .ge 29, 3) := by decide +kernel
theorem d_Md_isThere_95 : decode prog_14_method_35_code 95 = .ok (.aload_n 0, 1) := by decide +kernel
theorem d_Md_isThere_96 : decode prog_14_method_35_code 96 = .ok (.getfield 93, 3) := by decide +kernel
theorem d_Md_isThere_99 : decode prog_14_method_35_code 99 = .ok (.aload_n 0, 1) := by decide +kernel
theorem d_Md_isThere_100 : decode prog_14_method_35_code 100 = .ok (.getfield 77, 3) := by decide +kernel
theorem d_Md_isThere_103 : decode prog_14_method_35_code 103 = .ok (.iload_n 3, 1) := by decide +kernel
theorem d_Md_isThere_104 : decode prog_14_method_35_code 104 = .ok (.iaload, 1) := by decide +kernel
theorem d_Md_isThere_105 : decode prog_14_method_35_code 105 = .ok (.iload 4, 2) := by decide +kernel
theorem d_Md_isThere_107 : decode prog_14_method_35_code 107 = .ok (.iadd, 1) := by decide +kernel
theorem d_Md_isThere_108 : decode prog_14_method_35_code 108 = .ok (.iaload, 1) := by decide +kernel
theorem d_Md_isThere_109 : decode prog_14_method_35_code 109 = .ok (.iload_n 2, 1) := by decide +kernel
theorem d_Md_isThere_110 : decode prog_14_method_35_code 110 = .ok (.if_icmp .ne 5, 3) := by decide +kernel
theorem d_Md_isThere_113 : decode prog_14_method_35_code 113 = .ok (.iconst 0, 1) := by decide +kernel
theorem d_Md_isThere_114 : decode prog_14_method_35_code 114 = .ok (.ireturn, 1) := by decide +kernel
theorem d_Md_isThere_115 : decode prog_14_method_35_code 115 = .ok (.iinc 4 1, 3) := by decide +kernel
theorem d_Md_isThere_118 : decode prog_14_method_35_code 118 = .ok (.goto (-34), 3) := by decide +kernel
theorem d_Md_isThere_121 : decode prog_14_method_35_code 121 = .ok (.iinc 3 1, 3) := by decide +kernel
theorem d_Md_isThere_124 : decode prog_14_method_35_code 124 = .ok (.goto (-95), 3) := by decide +kernel
theorem d_Md_isThere_127 : decode prog_14_method_35_code 127 = .ok (.iconst 1, 1) := by decide +kernel
theorem d_Md_isThere_128 : decode prog_14_method_35_code 128 = .ok (.ireturn, 1) := by decide +kernel
def y_Md_lean : MethodName := ⟨"PatchStoreModel", "lean", "(I)I"⟩
abbrev c_Md_lean : Cond := (Jvm.Cond.code ({ cls := "PatchStoreModel", name := "lean", desc := "(I)I" } : Jvm.MethodName) prog_14_method_32_code (5 : Nat) (Option.some Jvm.ClassFile.FieldType.int))
abbrev ws_Md_lean : List Cond := c_Md_lean :: xg_1
theorem d_Md_lean_0 : decode prog_14_method_32_code 0 = .ok (.aload_n 0, 1) := by decide +kernel
theorem d_Md_lean_1 : decode prog_14_method_32_code 1 = .ok (.getfield 173, 3) := by decide +kernel
theorem d_Md_lean_4 : decode prog_14_method_32_code 4 = .ok (.iconst 0, 1) := by decide +kernel
theorem d_Md_lean_5 : decode prog_14_method_32_code 5 = .ok (.invokestatic 373, 3) := by decide +kernel
theorem d_Md_lean_8 : decode prog_14_method_32_code 8 = .ok (.iconst 0, 1) := by decide +kernel
theorem d_Md_lean_9 : decode prog_14_method_32_code 9 = .ok (.istore_n 2, 1) := by decide +kernel
theorem d_Md_lean_10 : decode prog_14_method_32_code 10 = .ok (.iload_n 1, 1) := by decide +kernel
theorem d_Md_lean_11 : decode prog_14_method_32_code 11 = .ok (.istore_n 3, 1) := by decide +kernel
theorem d_Md_lean_12 : decode prog_14_method_32_code 12 = .ok (.iload_n 3, 1) := by decide +kernel
theorem d_Md_lean_13 : decode prog_14_method_32_code 13 = .ok (.ifCond .lt 87, 3) := by decide +kernel
theorem d_Md_lean_16 : decode prog_14_method_32_code 16 = .ok (.iload_n 3, 1) := by decide +kernel
theorem d_Md_lean_17 : decode prog_14_method_32_code 17 = .ok (.iload_n 1, 1) := by decide +kernel
theorem d_Md_lean_18 : decode prog_14_method_32_code 18 = .ok (.if_icmp .eq 15, 3) := by decide +kernel
theorem d_Md_lean_21 : decode prog_14_method_32_code 21 = .ok (.aload_n 0, 1) := by decide +kernel
theorem d_Md_lean_22 : decode prog_14_method_32_code 22 = .ok (.getfield 173, 3) := by decide +kernel
theorem d_Md_lean_25 : decode prog_14_method_32_code 25 = .ok (.iload_n 3, 1) := by decide +kernel
theorem d_Md_lean_26 : decode prog_14_method_32_code 26 = .ok (.baload, 1) := by decide +kernel
theorem d_Md_lean_27 : decode prog_14_method_32_code 27 = .ok (.ifCond .ne 6, 3) := by decide +kernel
theorem d_Md_lean_30 : decode prog_14_method_32_code 30 = .ok (.goto 64, 3) := by decide +kernel
theorem d_Md_lean_33 : decode prog_14_method_32_code 33 = .ok (.aload_n 0, 1) := by decide +kernel
theorem d_Md_lean_34 : decode prog_14_method_32_code 34 = .ok (.getfield 38, 3) := by decide +kernel
theorem d_Md_lean_37 : decode prog_14_method_32_code 37 = .ok (.iload_n 3, 1) := by decide +kernel
theorem d_Md_lean_38 : decode prog_14_method_32_code 38 = .ok (.iaload, 1) := by decide +kernel
theorem d_Md_lean_39 : decode prog_14_method_32_code 39 = .ok (.istore 4, 2) := by decide +kernel
theorem d_Md_lean_41 : decode prog_14_method_32_code 41 = .ok (.iload 4, 2) := by decide +kernel
theorem d_Md_lean_43 : decode prog_14_method_32_code 43 = .ok (.aload_n 0, 1) := by decide +kernel
theorem d_Md_lean_44 : decode prog_14_method_32_code 44 = .ok (.getfield 38, 3) := by decide +kernel
theorem d_Md_lean_47 : decode prog_14_method_32_code 47 = .ok (.iload_n 3, 1) := by decide +kernel
theorem d_Md_lean_48 : decode prog_14_method_32_code 48 = .ok (.iconst 1, 1) := by decide +kernel
theorem d_Md_lean_49 : decode prog_14_method_32_code 49 = .ok (.iadd, 1) := by decide +kernel
theorem d_Md_lean_50 : decode prog_14_method_32_code 50 = .ok (.iaload, 1) := by decide +kernel
theorem d_Md_lean_51 : decode prog_14_method_32_code 51 = .ok (.if_icmp .ge 43, 3) := by decide +kernel
theorem d_Md_lean_54 : decode prog_14_method_32_code 54 = .ok (.aload_n 0, 1) := by decide +kernel
theorem d_Md_lean_55 : decode prog_14_method_32_code 55 = .ok (.getfield 173, 3) := by decide +kernel
theorem d_Md_lean_58 : decode prog_14_method_32_code 58 = .ok (.aload_n 0, 1) := by decide +kernel
theorem d_Md_lean_59 : decode prog_14_method_32_code 59 = .ok (.getfield 49, 3) := by decide +kernel
theorem d_Md_lean_62 : decode prog_14_method_32_code 62 = .ok (.iload 4, 2) := by decide +kernel
theorem d_Md_lean_64 : decode prog_14_method_32_code 64 = .ok (.iaload, 1) := by decide +kernel
theorem d_Md_lean_65 : decode prog_14_method_32_code 65 = .ok (.baload, 1) := by decide +kernel
theorem d_Md_lean_66 : decode prog_14_method_32_code 66 = .ok (.ifCond .eq 6, 3) := by decide +kernel
theorem d_Md_lean_69 : decode prog_14_method_32_code 69 = .ok (.goto 19, 3) := by decide +kernel
theorem d_Md_lean_72 : decode prog_14_method_32_code 72 = .ok (.aload_n 0, 1) := by decide +kernel
theorem d_Md_lean_73 : decode prog_14_method_32_code 73 = .ok (.getfield 173, 3) := by decide +kernel
theorem d_Md_lean_76 : decode prog_14_method_32_code 76 = .ok (.aload_n 0, 1) := by decide +kernel
theorem d_Md_lean_77 : decode prog_14_method_32_code 77 = .ok (.getfield 49, 3) := by decide +kernel
theorem d_Md_lean_80 : decode prog_14_method_32_code 80 = .ok (.iload 4, 2) := by decide +kernel
theorem d_Md_lean_82 : decode prog_14_method_32_code 82 = .ok (.iaload, 1) := by decide +kernel
theorem d_Md_lean_83 : decode prog_14_method_32_code 83 = .ok (.iconst 1, 1) := by decide +kernel
theorem d_Md_lean_84 : decode prog_14_method_32_code 84 = .ok (.bastore, 1) := by decide +kernel
theorem d_Md_lean_85 : decode prog_14_method_32_code 85 = .ok (.iinc 2 1, 3) := by decide +kernel
theorem d_Md_lean_88 : decode prog_14_method_32_code 88 = .ok (.iinc 4 1, 3) := by decide +kernel
theorem d_Md_lean_91 : decode prog_14_method_32_code 91 = .ok (.goto (-50), 3) := by decide +kernel
theorem d_Md_lean_94 : decode prog_14_method_32_code 94 = .ok (.iinc 3 (-1), 3) := by decide +kernel
theorem d_Md_lean_97 : decode prog_14_method_32_code 97 = .ok (.goto (-85), 3) := by decide +kernel
theorem d_Md_lean_100 : decode prog_14_method_32_code 100 = .ok (.iload_n 2, 1) := by decide +kernel
theorem d_Md_lean_101 : decode prog_14_method_32_code 101 = .ok (.ireturn, 1) := by decide +kernel
/-- change c comes behind change d: by the hashes of their patches, then by number -/
def kyG (H : Nat → Nat → Int32) (PC : Nat → Nat) (c d : Nat) : Prop := (PC c = PC d ∧ d < c) ∨ (¬ PC c = PC d ∧ sq (H (PC d)) 0 32 < sq (H (PC c)) 0 32)
theorem bo_gt {f g : Nat → Int32} {i j n : Nat} : ¬ bo f g i j n ≤ 0 ↔ sq g j n < sq f i n := by
  have h1 := bo_lt f g n i j
  have h2 := bo_z f g n i j
  constructor
  · intro z
    rcases sq_total (sq f i n) (sq g j n) with y | y | y
    · exact absurd (Int32.le_of_lt (h1.mpr y)) z
    · exact absurd (by rw [h2.mpr y]; exact Int32.le_refl _) z
    · exact y
  · intro z y
    have y2 : ¬ bo f g i j n < 0 := fun w => absurd (List.lt_trans z (h1.mp w)) (List.lt_irrefl _)
    have y3 : bo f g i j n = 0 := Int32.le_antisymm y (Int32.not_lt.mp y2)
    rw [h2.mp y3] at z
    exact absurd z (List.lt_irrefl _)
theorem sub_gt {a b : Nat} (ha : a < 2147483648) (hb : b < 2147483648) : ¬ nI a - nI b ≤ 0 ↔ b < a := by
  by_cases h : b < a
  · have e : nI a - nI b = nI (a - b) := nI_subN (by omega)
    rw [e]
    refine ⟨fun _ => h, fun _ y => ?_⟩
    have := (nI_leI (a := a - b) (b := 0) (by omega) (by decide)).mp y
    omega
  · refine ⟨fun z => absurd ?_ z, fun z => absurd z h⟩
    have e : nI a - nI b = -(nI (b - a)) := by
      rw [← nI_subN (show a ≤ b by omega), Int32.neg_sub]
    rw [e]
    rcases Nat.eq_or_lt_of_le (Nat.zero_le (b - a)) with z | z
    · rw [← z]; decide
    · rw [Int32.le_iff_toInt_le, Int32.toInt_neg]
      have : (nI (b - a)).toInt = ((b - a : Nat) : Int) := nI_toInt (by omega)
      rw [this, Int.bmod_eq_of_le (by omega) (by omega)]
      show -((b - a : Nat) : Int) ≤ 0
      omega
/-- what the reference's rows hold of the changes, for namings -/
def mvR (NC : Nat) (PC KD CF OC OA : Nat → Nat) (OX : Nat → Nat → Nat) (of so fo oc oa ov : Nat → Int32) : Prop := NC ≤ 38000 ∧ (∀ x, x < NC → of x = nI (PC x) ∧ PC x < 500 ∧ so x = nI (KD x) ∧ KD x ≤ 4) ∧ (∀ x, x < NC → KD x ≤ 1 → fo x = nI (CF x) ∧ CF x < 40000) ∧ ∀ x, x < NC → KD x = 1 → oc x = nI (OC x) ∧ OC x ≤ 255 ∧ oa x = nI (OA x) ∧ OA x + OC x ≤ 70000 ∧ ∀ i, i < OC x → ov (OA x + i) = nI (OX x i) ∧ OX x i < 38000
/-- a naming is there in a set -/
def isT (sf : Nat → Int32) (NC : Nat) (PC KD CF OC NS : Nat → Nat) (OX : Nat → Nat → Nat) (c : Nat) : Prop := sf (PC c) = 1 ∧ ¬ NS c = 0 ∧ ∀ x, x < NC → KD x = 1 → CF x = CF c → sf (PC x) = 1 → ∀ i, i < OC x → ¬ OX x i = c
/-- the transitive dependencies, as the reference marks them: those of the patches above q -/
def lnM (p : Nat) (LO : Nat → Nat → Prop) (FD DP : Nat → Nat) (q x : Nat) : Prop := ∃ y, q ≤ y ∧ y ≤ p ∧ (y = p ∨ LO p y) ∧ ∃ k, FD y ≤ k ∧ k < FD (y + 1) ∧ DP k = x
theorem lnM_s {p : Nat} {LO : Nat → Nat → Prop} {FD DP : Nat → Nat} {q x : Nat} (hq : q ≤ p) : lnM p LO FD DP q x ↔ lnM p LO FD DP (q + 1) x ∨ ((q = p ∨ LO p q) ∧ ∃ k, FD q ≤ k ∧ k < FD (q + 1) ∧ DP k = x) := by
  constructor
  · rintro ⟨y, h1, h2, h3, h4⟩
    by_cases e : y = q
    · subst e; exact Or.inr ⟨h3, h4⟩
    · exact Or.inl ⟨y, by omega, h2, h3, h4⟩
  · rintro (⟨y, h1, h2, h3, h4⟩ | ⟨h3, h4⟩)
    · exact ⟨y, by omega, h2, h3, h4⟩
    · exact ⟨q, Nat.le_refl _, hq, h3, h4⟩
/-- what leaning is -/
def loR (P : Nat) (LO : Nat → Nat → Prop) (FD DP : Nat → Nat) : Prop := (∀ p, p < P → ∀ k, FD p ≤ k → k < FD (p + 1) → DP k < p) ∧ ∀ p, p < P → ∀ x, LO p x ↔ ∃ k, FD p ≤ k ∧ k < FD (p + 1) ∧ (DP k = x ∨ LO (DP k) x)
theorem loR.lt {P : Nat} {LO : Nat → Nat → Prop} {FD DP : Nat → Nat} (h : loR P LO FD DP) : ∀ p, p < P → ∀ x, LO p x → x < p := by
  intro p
  induction p using Nat.strongRecOn with
  | _ p ih =>
    intro hp x hx
    obtain ⟨k, h1, h2, h3⟩ := (h.2 p hp x).mp hx
    have := h.1 p hp k h1 h2
    rcases h3 with e | e
    · omega
    · have := ih (DP k) this (by omega) x e; omega
theorem loR.trans {P : Nat} {LO : Nat → Nat → Prop} {FD DP : Nat → Nat} (h : loR P LO FD DP) : ∀ p, p < P → ∀ y x, LO p y → LO y x → LO p x := by
  intro p
  induction p using Nat.strongRecOn with
  | _ p ih =>
    intro hp y x h1 h2
    obtain ⟨k, a1, a2, a3⟩ := (h.2 p hp y).mp h1
    refine (h.2 p hp x).mpr ⟨k, a1, a2, Or.inr ?_⟩
    rcases a3 with e | e
    · rw [e]; exact h2
    · have := h.1 p hp k a1 a2
      exact ih (DP k) this (by omega) y x e h2
theorem loR.up {P : Nat} {LO : Nat → Nat → Prop} {FD DP : Nat → Nat} (h : loR P LO FD DP) {p : Nat} (hp : p < P) : ∀ x, LO p x ↔ ∃ y, y ≤ p ∧ (y = p ∨ LO p y) ∧ ∃ k, FD y ≤ k ∧ k < FD (y + 1) ∧ DP k = x := by
  intro x
  constructor
  · have key : ∀ q, q < P → (q = p ∨ LO p q) → LO q x → ∃ y, y ≤ p ∧ (y = p ∨ LO p y) ∧ ∃ k, FD y ≤ k ∧ k < FD (y + 1) ∧ DP k = x := by
      intro q
      induction q using Nat.strongRecOn with
      | _ q ih =>
        intro hq hpq hx
        obtain ⟨k, a1, a2, a3⟩ := (h.2 q hq x).mp hx
        have hd := h.1 q hq k a1 a2
        rcases a3 with e | e
        · refine ⟨q, ?_, hpq, k, a1, a2, e⟩
          rcases hpq with z | z
          · omega
          · have := h.lt p hp q z; omega
        · refine ih (DP k) hd (by omega) (Or.inr ?_) e
          have l1 : LO q (DP k) := (h.2 q hq _).mpr ⟨k, a1, a2, Or.inl rfl⟩
          rcases hpq with z | z
          · rw [← z]; exact l1
          · exact h.trans p hp q _ z l1
    exact fun hx => key p hp (Or.inl rfl) hx
  · rintro ⟨y, h1, h2, k, a1, a2, a3⟩
    have l1 : LO y x := (h.2 y (by omega) x).mpr ⟨k, a1, a2, Or.inl a3⟩
    rcases h2 with e | e
    · rw [← e]; exact l1
    · exact h.trans p hp y x e l1
/-- all that are above q decide whether q is marked -/
theorem loR.at {P : Nat} {LO : Nat → Nat → Prop} {FD DP : Nat → Nat} (h : loR P LO FD DP) {p q : Nat} (hp : p < P) (hq : q < p) : lnM p LO FD DP (q + 1) q ↔ LO p q := by
  rw [h.up hp q]
  constructor
  · rintro ⟨y, _, h2, h3, h4⟩
    exact ⟨y, h2, h3, h4⟩
  · rintro ⟨y, h2, h3, k, a1, a2, a3⟩
    refine ⟨y, ?_, h2, h3, k, a1, a2, a3⟩
    have := h.1 y (by omega) k a1 a2
    omega
theorem loR.all {P : Nat} {LO : Nat → Nat → Prop} {FD DP : Nat → Nat} (h : loR P LO FD DP) {p : Nat} (hp : p < P) (x : Nat) : lnM p LO FD DP 0 x ↔ LO p x := by
  rw [h.up hp x]
  exact ⟨fun ⟨y, _, h2, h3, h4⟩ => ⟨y, h2, h3, h4⟩, fun ⟨y, h2, h3, h4⟩ => ⟨y, Nat.zero_le _, h2, h3, h4⟩⟩
/-- a row of flags says who is so -/
def fgR (mk : Nat → Int32) (n : Nat) (Q : Nat → Prop) : Prop := ∀ x, x < n → flg (mk x) (Q x)
theorem fgR.iff {mk : Nat → Int32} {n : Nat} {Q R : Nat → Prop} (h : fgR mk n Q) (e : ∀ x, x < n → (Q x ↔ R x)) : fgR mk n R := fun x hx => (h x hx).iff (e x hx)
theorem fgR.set {mk : Nat → Int32} {n : Nat} {Q : Nat → Prop} {v : Nat} (h : fgR mk n Q) : fgR (upd mk v 1) n (fun x => Q x ∨ x = v) := by
  intro x hx
  by_cases e : x = v
  · subst e; rw [upd_eq]; exact Or.inl ⟨rfl, Or.inr rfl⟩
  · rw [upd_ne _ e]; exact (h x hx).iff ⟨Or.inl, fun z => z.elim id (fun y => absurd y e)⟩
/-- how many flags are set -/
def fgB (mk : Nat → Int32) (x : Nat) : Bool := mk x == 1
def fgN (mk : Nat → Int32) (n : Nat) : Nat := cnt (fgB mk) n
theorem fgN.set {mk : Nat → Int32} {n v : Nat} (hv : v < n) (h : ¬ mk v = 1) : fgN mk n + 1 = fgN (upd mk v 1) n := by
  unfold fgN
  have hc : ∀ i, fgB (upd mk v 1) i = (fgB mk i || decide (i = v)) := by
    intro i
    unfold fgB
    by_cases e : i = v
    · subst e; rw [upd_eq]; simp
    · rw [upd_ne _ e]; simp [e]
  have hb : fgB mk v = false := by unfold fgB; simp [h]
  rw [cnt_in (k := v) hc hb n, if_pos hv]
theorem fgN.zero {mk : Nat → Int32} {n : Nat} (h : ∀ x, x < n → mk x = 0) : fgN mk n = 0 := cnt_zero n (fun i hi => by unfold fgB; rw [h i hi]; decide)
theorem fgN.le (mk : Nat → Int32) (n : Nat) : fgN mk n ≤ n := cnt_le _ _
set_option maxHeartbeats 4000000 in
set_option maxRecDepth 100000 in
/-- Arrays.fill of booleans -/
theorem m_Ar_fillZ (l : Launch) (dC : Nat → ClassId) (dI : Nat → Nat → Nat) (cI cB cL cZ cR : ClassId) (ar N : Nat) (f0 : Nat → Int32) (sz : Nat) (hN : N < 2147483648) : Met l y_Ar_fill2 ws_Ar_fill2 ({ frames := 0, cells := 0, slots := 0, locals := 0 }) (xw_Pc dC dI [(cI, .int), (cB, .byte), (cL, .long), (cZ, .boolean), (cR, .object "PatchStore$Repository")] [.ref ar, .int 0] [(ar, .inl (cZ, N, .inl f0))] sz) (va_Qv (fun u : Nat → Int32 => ∀ j, j < N → u j = 0) (fun u t => xw_B dC dI [(cI, .int), (cB, .byte), (cL, .long), (cZ, .boolean), (cR, .object "PatchStore$Repository")] (va_A [(ar, .inl (cZ, N, .inl f0))] sz) [(ar, .inl (cZ, N, .inl u))] t) (va_A [(ar, .inl (cZ, N, .inl f0))] sz)) 0 0 (va_A [(ar, .inl (cZ, N, .inl f0))] sz) := by
  refine Met.ofW (cc := prog_36_method_111_code) (maxL := 4) (ret := none) (by decide) rfl ?_
  intro p e s m args below meth c s₁ B hml hv
  obtain ⟨rfl, hsz, hP, hK, hD0⟩ := hv
  have hx := B.exec
  have hb := B.bytes
  have hr := B.returns
  have hts0 := atoms_spec (ws := ws_Ar_fill2) B.pre
  have hts : ∀ w ∈ xg_1, w.before _ s = true := fun w h => hts0 w (List.mem_cons_of_mem _ h)
  have hown : s.vm.findClass "java/util/Arrays" = some m.cls := findClass_of_methodNamed B.named
  have hlocks := B.notSynchronized
  subst hsz
  have hD := hD0.self (sz := s.heap.size)
  generalize hAe : va_A [(ar, .inl (cZ, N, .inl f0))] s.heap.size = A at hD ⊢
  have hA : ∀ q : Nat, s.heap.size ≤ q → A q := fun q h => by rw [← hAe]; exact Or.inr h
  have hS : va_S A s.heap s.heap [] := va_S.rf
  have hl := lv_entry ([.ref ar, .int 0]) (n := 4) (Nat.le_of_ble_eq_true rfl)
  rw [lg_entry_eq]
  generalize (lg_sl ([.ref ar, .int 0]) ++ List.replicate (4 - (lg_sl ([.ref ar, .int 0])).length) Slot.unset).toArray = ls at hl ⊢
  have hl : lv_has ls 4 [(0, .ref ar), (1, .int 0)] := hl
  generalize hQe : MQ _ _ _ _ _ _ _ = Q
  refine lv_iconst (v := 0) hx hb d_Ar_fill2_0 (by decide) ?_
  refine lv_istore_n (lv' := [(2, .int 0), (0, .ref ar), (1, .int 0)]) hx hb d_Ar_fill2_1 rfl hl (by decide) rfl (fun ls hl => ?_)
  refine lv_aload_n hx hb d_Ar_fill2_2 rfl (lv_at hl 1 rfl) ?_
  refine va_alen (v := nI N) hx hb hK hP 0 3 rfl rfl rfl d_Ar_fill2_3 ?_
  refine lv_istore_n (lv' := [(3, .int (nI N)), (2, .int 0), (0, .ref ar), (1, .int 0)]) hx hb d_Ar_fill2_4 rfl hl (by decide) rfl (fun ls hl => ?_)
  have loop_5 : ∀ (n9 : Nat) (q : Nat) (fu : Nat → Int32) (H : Heap) (locs : List Loc) (ls : Array Slot), N - q < n9 → (q ≤ N) → (∀ j, j < q → fu j = 0) → va_P (dC, dI) classes [(ar, .inl (cZ, N, .inl fu))] H → va_D A [(ar, .inl (cZ, N, .inl fu))] → va_S A s.heap H locs → lv_has ls 4 [(0, .ref ar), (1, .int 0), (2, .int (nI q)), (3, .int (nI N))] → W p l e (headSpec ws_Ar_fill2 ({ frames := 0, cells := 0, slots := 0, locals := 0 })).room s m ([.ref ar, .int 0] : List Value).toArray below meth c H locs 0 0 Q (F0 m 5 ls []) := by
    intro n9
    induction n9 with
    | zero => intro q fu H locs ls hm; exact absurd hm (Nat.not_lt_zero _)
    | succ n9 ih_5 =>
      intro q fu H locs ls hm hq hf hP hD hS hl
      refine lv_iload_n hx hb d_Ar_fill2_5 rfl (lv_at hl 2 rfl) ?_
      refine lv_iload_n hx hb d_Ar_fill2_6 rfl (lv_at hl 3 rfl) ?_
      refine lv_icmp_ge (tgt := 20) hx hb d_Ar_fill2_7 (by decide) (fun c_7 => ?_) (fun c_7 => ?_)
      · have n_7 : N ≤ q := (nI_leI (a := N) (b := q) (by omega) (by omega)).mp c_7
        rw [← hQe]
        exact W.vret hx hb hr (fun t ht hW => ⟨⟨fu, rfl, fun j z => hf j (by omega), by rw [ht]; exact hP, va_K.moved hW.alike hK, hD⟩, hS.F ht⟩) hS.2.2 d_Ar_fill2_20
      · have n_7 : q < N := Nat.lt_of_not_le (fun z => c_7 ((nI_leI (a := N) (b := q) (by omega) (by omega)).mpr z))
        refine lv_aload_n hx hb d_Ar_fill2_10 rfl (lv_at hl 0 rfl) ?_
        refine lv_iload_n hx hb d_Ar_fill2_11 rfl (lv_at hl 2 rfl) ?_
        refine lv_iload_n hx hb d_Ar_fill2_12 rfl (lv_at hl 1 rfl) ?_
        refine va_zast hx hb hK hP hD hS 0 3 rfl rfl (vp_in_nI (by omega) (by omega)) d_Ar_fill2_13 (fun H locs hP hD hS => ?_)
        rw [show (nI q).toNatClampNeg = q from nI_clamp (by omega)] at hP hD
        rw [show vp_nar .boolean 0 = 0 from rfl] at hP hD
        have hP : va_P (dC, dI) classes [(ar, .inl (cZ, N, .inl (upd fu q 0)))] H := hP
        have hD : va_D A [(ar, .inl (cZ, N, .inl (upd fu q 0)))] := hD
        refine lv_iinc (v := nI (q + 1)) (lv' := [(2, .int (nI (q + 1))), (0, .ref ar), (1, .int 0), (3, .int (nI N))]) hx hb d_Ar_fill2_14 hl (k := 2) rfl (by exact nI_add _ _) (by decide) rfl (fun ls hl => ?_)
        refine lv_goto (tgt := 5) hx hb d_Ar_fill2_17 (by decide) ?_
        exact ih_5 (q + 1) (upd fu q 0) _ _ _ (by omega) (by omega) (fun j z => if e9 : j = q then by rw [e9, upd_eq] else (upd_ne _ e9).trans (hf j (by omega))) hP hD hS (lv_sub hl [1, 2, 0, 3] rfl)
  exact loop_5 _ 0 f0 _ _ _ (Nat.lt_succ_self _) (Nat.zero_le _) (fun j z => absurd z (Nat.not_lt_zero _)) hP hD hS (lv_sub hl [2, 3, 1, 0] rfl)
set_option maxHeartbeats 4000000 in
set_option maxRecDepth 100000 in
/-- the order of keys -/
theorem m_Md_keyOrder (l : Launch) (dC : Nat → ClassId) (dI : Nat → Nat → Nat) (cI cB cL cZ cR cBB cZZ cII : ClassId) (md ofM hsA : Nat) (md_tape md_size md_thrown md_fault md_bytes md_used md_at md_length md_depAt md_firstChange md_deps md_patches md_sort md_fileOf md_one md_two md_nameAt md_nameSize md_overAt md_overCount md_lineAt md_lineCount md_changes md_overs md_overTotal md_lineChange md_textAt md_textSize md_lines md_fileChange md_fileLines md_files md_sets md_stamp md_digest md_in md_pos md_stop md_wrong md_dep md_named md_depCount md_own md_refFile md_full md_h md_counts md_marked md_namings md_namingCount md_listed md_listedCount md_listedStamp md_member md_text md_place md_dead md_edge md_way md_members md_textLines md_unsure md_workedRepository md_workedFile md_workedStamp md_stack md_before md_left md_made md_madeSize md_need md_needs md_newAt md_newSize md_news md_common md_keptAs md_isNew md_keptFrom md_stateOf md_rising : Value) (of : Nat → Int32) (gh : Nat → Option Nat) (G : Gr) (PC : Nat → Nat) (P9 c1 c2 : Nat) (sz : Nat) (hGn : G.n = P9) (hP9 : P9 ≤ 500) (hgh : ∀ i, i < P9 → gh i = some (G.ah i)) (hc1 : c1 < 38000) (hc2 : c2 < 38000) (ho1 : of c1 = nI (PC c1)) (ho2 : of c2 = nI (PC c2)) (hp1 : PC c1 < P9) (hp2 : PC c2 < P9) : Met l y_Md_keyOrder ws_Md_keyOrder ({ frames := 2, cells := 0, slots := 0, locals := 120 }) (xw_Pc dC dI [(cI, .int), (cB, .byte), (cL, .long), (cZ, .boolean), (cR, .object "PatchStore$Repository"), (cBB, .array .byte), (cZZ, .array .boolean), (cII, .array .int)] [.ref md, .int (nI c1), .int (nI c2)] ([(md, .inr (12, [md_tape, md_size, md_thrown, md_fault, md_bytes, md_used, md_at, md_length, md_depAt, md_firstChange, .ref hsA, md_deps, md_patches, md_sort, .ref ofM, md_fileOf, md_one, md_two, md_nameAt, md_nameSize, md_overAt, md_overCount, md_lineAt, md_lineCount, md_changes, md_overs, md_overTotal, md_lineChange, md_textAt, md_textSize, md_lines, md_fileChange, md_fileLines, md_files, md_sets, md_stamp, md_digest, md_in, md_pos, md_stop, md_wrong, md_dep, md_named, md_depCount, md_own, md_refFile, md_full, md_h, md_counts, md_marked, md_namings, md_namingCount, md_listed, md_listedCount, md_listedStamp, md_member, md_text, md_place, md_dead, md_edge, md_way, md_members, md_textLines, md_unsure, md_workedRepository, md_workedFile, md_workedStamp, md_stack, md_before, md_left, md_made, md_madeSize, md_need, md_needs, md_newAt, md_newSize, md_news, md_common, md_keptAs, md_isNew, md_keptFrom, md_stateOf, md_rising])), (ofM, .inl (cI, 38000, .inl of)), (hsA, .inl (cBB, 500, .inr (.inr (.inr (.inr gh)))))] ++ gdA cI cB cZ G) sz) (va_Qi (fun (r : Int32) (_ : Unit) => ¬ r ≤ 0 ↔ kyG G.H PC c1 c2) (fun _ t => xw_B dC dI [(cI, .int), (cB, .byte), (cL, .long), (cZ, .boolean), (cR, .object "PatchStore$Repository"), (cBB, .array .byte), (cZZ, .array .boolean), (cII, .array .int)] (va_A ([(md, .inr (12, [md_tape, md_size, md_thrown, md_fault, md_bytes, md_used, md_at, md_length, md_depAt, md_firstChange, .ref hsA, md_deps, md_patches, md_sort, .ref ofM, md_fileOf, md_one, md_two, md_nameAt, md_nameSize, md_overAt, md_overCount, md_lineAt, md_lineCount, md_changes, md_overs, md_overTotal, md_lineChange, md_textAt, md_textSize, md_lines, md_fileChange, md_fileLines, md_files, md_sets, md_stamp, md_digest, md_in, md_pos, md_stop, md_wrong, md_dep, md_named, md_depCount, md_own, md_refFile, md_full, md_h, md_counts, md_marked, md_namings, md_namingCount, md_listed, md_listedCount, md_listedStamp, md_member, md_text, md_place, md_dead, md_edge, md_way, md_members, md_textLines, md_unsure, md_workedRepository, md_workedFile, md_workedStamp, md_stack, md_before, md_left, md_made, md_madeSize, md_need, md_needs, md_newAt, md_newSize, md_news, md_common, md_keptAs, md_isNew, md_keptFrom, md_stateOf, md_rising])), (ofM, .inl (cI, 38000, .inl of)), (hsA, .inl (cBB, 500, .inr (.inr (.inr (.inr gh)))))] ++ gdA cI cB cZ G) sz) ([(md, .inr (12, [md_tape, md_size, md_thrown, md_fault, md_bytes, md_used, md_at, md_length, md_depAt, md_firstChange, .ref hsA, md_deps, md_patches, md_sort, .ref ofM, md_fileOf, md_one, md_two, md_nameAt, md_nameSize, md_overAt, md_overCount, md_lineAt, md_lineCount, md_changes, md_overs, md_overTotal, md_lineChange, md_textAt, md_textSize, md_lines, md_fileChange, md_fileLines, md_files, md_sets, md_stamp, md_digest, md_in, md_pos, md_stop, md_wrong, md_dep, md_named, md_depCount, md_own, md_refFile, md_full, md_h, md_counts, md_marked, md_namings, md_namingCount, md_listed, md_listedCount, md_listedStamp, md_member, md_text, md_place, md_dead, md_edge, md_way, md_members, md_textLines, md_unsure, md_workedRepository, md_workedFile, md_workedStamp, md_stack, md_before, md_left, md_made, md_madeSize, md_need, md_needs, md_newAt, md_newSize, md_news, md_common, md_keptAs, md_isNew, md_keptFrom, md_stateOf, md_rising])), (ofM, .inl (cI, 38000, .inl of)), (hsA, .inl (cBB, 500, .inr (.inr (.inr (.inr gh)))))] ++ gdA cI cB cZ G) t) (va_A ([(md, .inr (12, [md_tape, md_size, md_thrown, md_fault, md_bytes, md_used, md_at, md_length, md_depAt, md_firstChange, .ref hsA, md_deps, md_patches, md_sort, .ref ofM, md_fileOf, md_one, md_two, md_nameAt, md_nameSize, md_overAt, md_overCount, md_lineAt, md_lineCount, md_changes, md_overs, md_overTotal, md_lineChange, md_textAt, md_textSize, md_lines, md_fileChange, md_fileLines, md_files, md_sets, md_stamp, md_digest, md_in, md_pos, md_stop, md_wrong, md_dep, md_named, md_depCount, md_own, md_refFile, md_full, md_h, md_counts, md_marked, md_namings, md_namingCount, md_listed, md_listedCount, md_listedStamp, md_member, md_text, md_place, md_dead, md_edge, md_way, md_members, md_textLines, md_unsure, md_workedRepository, md_workedFile, md_workedStamp, md_stack, md_before, md_left, md_made, md_madeSize, md_need, md_needs, md_newAt, md_newSize, md_news, md_common, md_keptAs, md_isNew, md_keptFrom, md_stateOf, md_rising])), (ofM, .inl (cI, 38000, .inl of)), (hsA, .inl (cBB, 500, .inr (.inr (.inr (.inr gh)))))] ++ gdA cI cB cZ G) sz)) 0 0 (va_A ([(md, .inr (12, [md_tape, md_size, md_thrown, md_fault, md_bytes, md_used, md_at, md_length, md_depAt, md_firstChange, .ref hsA, md_deps, md_patches, md_sort, .ref ofM, md_fileOf, md_one, md_two, md_nameAt, md_nameSize, md_overAt, md_overCount, md_lineAt, md_lineCount, md_changes, md_overs, md_overTotal, md_lineChange, md_textAt, md_textSize, md_lines, md_fileChange, md_fileLines, md_files, md_sets, md_stamp, md_digest, md_in, md_pos, md_stop, md_wrong, md_dep, md_named, md_depCount, md_own, md_refFile, md_full, md_h, md_counts, md_marked, md_namings, md_namingCount, md_listed, md_listedCount, md_listedStamp, md_member, md_text, md_place, md_dead, md_edge, md_way, md_members, md_textLines, md_unsure, md_workedRepository, md_workedFile, md_workedStamp, md_stack, md_before, md_left, md_made, md_madeSize, md_need, md_needs, md_newAt, md_newSize, md_news, md_common, md_keptAs, md_isNew, md_keptFrom, md_stateOf, md_rising])), (ofM, .inl (cI, 38000, .inl of)), (hsA, .inl (cBB, 500, .inr (.inr (.inr (.inr gh)))))] ++ gdA cI cB cZ G) sz) := by
  refine Met.ofW (cc := prog_14_method_36_code) (maxL := 3) (ret := (Option.some Jvm.ClassFile.FieldType.int)) (by decide) rfl ?_
  intro p e s m args below meth c s₁ B hml hv
  obtain ⟨rfl, hsz, hP, hK, hD0⟩ := hv
  have hx := B.exec
  have hb := B.bytes
  have hr := B.returns
  have hts0 := atoms_spec (ws := ws_Md_keyOrder) B.pre
  have hts : ∀ w ∈ xg_1, w.before _ s = true := fun w h => hts0 w (List.mem_cons_of_mem _ h)
  have hown : s.vm.findClass "PatchStoreModel" = some m.cls := findClass_of_methodNamed B.named
  have hlocks := B.notSynchronized
  subst hsz
  have hD := hD0.self (sz := s.heap.size)
  generalize hAe : va_A ([(md, .inr (12, [md_tape, md_size, md_thrown, md_fault, md_bytes, md_used, md_at, md_length, md_depAt, md_firstChange, .ref hsA, md_deps, md_patches, md_sort, .ref ofM, md_fileOf, md_one, md_two, md_nameAt, md_nameSize, md_overAt, md_overCount, md_lineAt, md_lineCount, md_changes, md_overs, md_overTotal, md_lineChange, md_textAt, md_textSize, md_lines, md_fileChange, md_fileLines, md_files, md_sets, md_stamp, md_digest, md_in, md_pos, md_stop, md_wrong, md_dep, md_named, md_depCount, md_own, md_refFile, md_full, md_h, md_counts, md_marked, md_namings, md_namingCount, md_listed, md_listedCount, md_listedStamp, md_member, md_text, md_place, md_dead, md_edge, md_way, md_members, md_textLines, md_unsure, md_workedRepository, md_workedFile, md_workedStamp, md_stack, md_before, md_left, md_made, md_madeSize, md_need, md_needs, md_newAt, md_newSize, md_news, md_common, md_keptAs, md_isNew, md_keptFrom, md_stateOf, md_rising])), (ofM, .inl (cI, 38000, .inl of)), (hsA, .inl (cBB, 500, .inr (.inr (.inr (.inr gh)))))] ++ gdA cI cB cZ G) s.heap.size = A at hD ⊢
  have hA : ∀ q : Nat, s.heap.size ≤ q → A q := fun q h => by rw [← hAe]; exact Or.inr h
  have hS : va_S A s.heap s.heap [] := va_S.rf
  have hl := lv_entry ([.ref md, .int (nI c1), .int (nI c2)]) (n := 3) (Nat.le_of_ble_eq_true rfl)
  rw [lg_entry_eq]
  generalize (lg_sl ([.ref md, .int (nI c1), .int (nI c2)]) ++ List.replicate (3 - (lg_sl ([.ref md, .int (nI c1), .int (nI c2)])).length) Slot.unset).toArray = ls at hl ⊢
  have hl : lv_has ls 3 [(0, .ref md), (1, .int (nI c1)), (2, .int (nI c2))] := hl
  refine lv_aload_n hx hb d_Md_keyOrder_0 rfl (lv_at hl 0 rfl) ?_
  refine va_get (D := (dC, dI)) (ci := 12) (v := .ref ofM) (C := R_Md) (T := F_Md) (N := 83) hx hb hts i_Md hown hK hP 0 rfl rfl 14 (by decide) (hts _ gw_1432) (fun _ h9 => h9) rfl d_Md_keyOrder_1 ?_
  refine lv_iload_n hx hb d_Md_keyOrder_4 rfl (lv_at hl 1 rfl) ?_
  refine va_iald hx hb hK hP 1 0 rfl rfl (vp_in_nI (by omega) (by omega)) d_Md_keyOrder_5 ?_
  rw [show (nI c1).toNatClampNeg = c1 from nI_clamp (by omega)]
  refine lv_topi (fun x_1 ex_1 => ?_)
  obtain rfl : x_1 = nI (PC c1) := by rw [ex_1]; first | done | (exact ho1)
  refine lv_aload_n hx hb d_Md_keyOrder_6 rfl (lv_at hl 0 rfl) ?_
  refine va_get (D := (dC, dI)) (ci := 12) (v := .ref ofM) (C := R_Md) (T := F_Md) (N := 83) hx hb hts i_Md hown hK hP 0 rfl rfl 14 (by decide) (hts _ gw_1432) (fun _ h9 => h9) rfl d_Md_keyOrder_7 ?_
  refine lv_iload_n hx hb d_Md_keyOrder_10 rfl (lv_at hl 2 rfl) ?_
  refine va_iald hx hb hK hP 1 0 rfl rfl (vp_in_nI (by omega) (by omega)) d_Md_keyOrder_11 ?_
  rw [show (nI c2).toNatClampNeg = c2 from nI_clamp (by omega)]
  refine lv_topi (fun x_2 ex_2 => ?_)
  obtain rfl : x_2 = nI (PC c2) := by rw [ex_2]; first | done | (exact ho2)
  refine lv_icmp_eq (tgt := 32) hx hb d_Md_keyOrder_12 (by decide) (fun c_12 => ?_) (fun c_12 => ?_)
  · have n_12 : (PC c1) = (PC c2) := (nI_eq (a := (PC c1)) (b := (PC c2)) (by omega) (by omega)).mp c_12
    refine lv_iload_n hx hb d_Md_keyOrder_32 rfl (lv_at hl 1 rfl) ?_
    refine lv_iload_n hx hb d_Md_keyOrder_33 rfl (lv_at hl 2 rfl) ?_
    refine lv_isub hx hb d_Md_keyOrder_34 ?_
    exact W.iret (v := (nI c1) - (nI c2)) hx hb hr (fun t ht hW => ⟨⟨_, (), rfl, (sub_gt (by omega) (by omega)).trans ⟨fun z => Or.inl ⟨n_12, z⟩, fun z => z.elim (fun y => y.2) (fun y => absurd n_12 y.1)⟩, by rw [ht]; exact hP, va_K.moved hW.alike hK, hD⟩, hS.F ht⟩) hS.2.2 d_Md_keyOrder_35
  · have n_12 : ¬ (PC c1) = (PC c2) := fun z => c_12 ((nI_eq (a := (PC c1)) (b := (PC c2)) (by omega) (by omega)).mpr z)
    refine lv_aload_n hx hb d_Md_keyOrder_15 rfl (lv_at hl 0 rfl) ?_
    refine lv_aload_n hx hb d_Md_keyOrder_16 rfl (lv_at hl 0 rfl) ?_
    refine va_get (D := (dC, dI)) (ci := 12) (v := .ref ofM) (C := R_Md) (T := F_Md) (N := 83) hx hb hts i_Md hown hK hP 0 rfl rfl 14 (by decide) (hts _ gw_1432) (fun _ h9 => h9) rfl d_Md_keyOrder_17 ?_
    refine lv_iload_n hx hb d_Md_keyOrder_20 rfl (lv_at hl 1 rfl) ?_
    refine va_iald hx hb hK hP 1 0 rfl rfl (vp_in_nI (by omega) (by omega)) d_Md_keyOrder_21 ?_
    rw [show (nI c1).toNatClampNeg = c1 from nI_clamp (by omega)]
    refine lv_topi (fun x_3 ex_3 => ?_)
    obtain rfl : x_3 = nI (PC c1) := by rw [ex_3]; first | done | (exact ho1)
    refine lv_aload_n hx hb d_Md_keyOrder_22 rfl (lv_at hl 0 rfl) ?_
    refine va_get (D := (dC, dI)) (ci := 12) (v := .ref ofM) (C := R_Md) (T := F_Md) (N := 83) hx hb hts i_Md hown hK hP 0 rfl rfl 14 (by decide) (hts _ gw_1432) (fun _ h9 => h9) rfl d_Md_keyOrder_23 ?_
    refine lv_iload_n hx hb d_Md_keyOrder_26 rfl (lv_at hl 2 rfl) ?_
    refine va_iald hx hb hK hP 1 0 rfl rfl (vp_in_nI (by omega) (by omega)) d_Md_keyOrder_27 ?_
    rw [show (nI c2).toNatClampNeg = c2 from nI_clamp (by omega)]
    refine lv_topi (fun x_4 ex_4 => ?_)
    obtain rfl : x_4 = nI (PC c2) := by rw [ex_4]; first | done | (exact ho2)
    have hPc := va_P.part (cx := [(md, .inr (12, [md_tape, md_size, md_thrown, md_fault, md_bytes, md_used, md_at, md_length, md_depAt, md_firstChange, .ref hsA, md_deps, md_patches, md_sort, .ref ofM, md_fileOf, md_one, md_two, md_nameAt, md_nameSize, md_overAt, md_overCount, md_lineAt, md_lineCount, md_changes, md_overs, md_overTotal, md_lineChange, md_textAt, md_textSize, md_lines, md_fileChange, md_fileLines, md_files, md_sets, md_stamp, md_digest, md_in, md_pos, md_stop, md_wrong, md_dep, md_named, md_depCount, md_own, md_refFile, md_full, md_h, md_counts, md_marked, md_namings, md_namingCount, md_listed, md_listedCount, md_listedStamp, md_member, md_text, md_place, md_dead, md_edge, md_way, md_members, md_textLines, md_unsure, md_workedRepository, md_workedFile, md_workedStamp, md_stack, md_before, md_left, md_made, md_madeSize, md_need, md_needs, md_newAt, md_newSize, md_news, md_common, md_keptAs, md_isNew, md_keptFrom, md_stateOf, md_rising])), (hsA, .inl (cBB, 500, .inr (.inr (.inr (.inr gh)))))]) hP [0, 2] rfl
    have hDc := va_D.part (cx := [(md, .inr (12, [md_tape, md_size, md_thrown, md_fault, md_bytes, md_used, md_at, md_length, md_depAt, md_firstChange, .ref hsA, md_deps, md_patches, md_sort, .ref ofM, md_fileOf, md_one, md_two, md_nameAt, md_nameSize, md_overAt, md_overCount, md_lineAt, md_lineCount, md_changes, md_overs, md_overTotal, md_lineChange, md_textAt, md_textSize, md_lines, md_fileChange, md_fileLines, md_files, md_sets, md_stamp, md_digest, md_in, md_pos, md_stop, md_wrong, md_dep, md_named, md_depCount, md_own, md_refFile, md_full, md_h, md_counts, md_marked, md_namings, md_namingCount, md_listed, md_listedCount, md_listedStamp, md_member, md_text, md_place, md_dead, md_edge, md_way, md_members, md_textLines, md_unsure, md_workedRepository, md_workedFile, md_workedStamp, md_stack, md_before, md_left, md_made, md_madeSize, md_need, md_needs, md_newAt, md_newSize, md_news, md_common, md_keptAs, md_isNew, md_keptFrom, md_stateOf, md_rising])), (hsA, .inl (cBB, 500, .inr (.inr (.inr (.inr gh)))))]) hD [0, 2] (by decide) rfl
    have hFc := va_freeP (cx := [(md, .inr (12, [md_tape, md_size, md_thrown, md_fault, md_bytes, md_used, md_at, md_length, md_depAt, md_firstChange, .ref hsA, md_deps, md_patches, md_sort, .ref ofM, md_fileOf, md_one, md_two, md_nameAt, md_nameSize, md_overAt, md_overCount, md_lineAt, md_lineCount, md_changes, md_overs, md_overTotal, md_lineChange, md_textAt, md_textSize, md_lines, md_fileChange, md_fileLines, md_files, md_sets, md_stamp, md_digest, md_in, md_pos, md_stop, md_wrong, md_dep, md_named, md_depCount, md_own, md_refFile, md_full, md_h, md_counts, md_marked, md_namings, md_namingCount, md_listed, md_listedCount, md_listedStamp, md_member, md_text, md_place, md_dead, md_edge, md_way, md_members, md_textLines, md_unsure, md_workedRepository, md_workedFile, md_workedStamp, md_stack, md_before, md_left, md_made, md_madeSize, md_need, md_needs, md_newAt, md_newSize, md_news, md_common, md_keptAs, md_isNew, md_keptFrom, md_stateOf, md_rising])), (hsA, .inl (cBB, 500, .inr (.inr (.inr (.inr gh)))))]) hD hS hA [0, 2] rfl
    refine va_calli (va_runV (As := [.int (nI (PC c1)), .int (nI (PC c2))]) (rest := []) ⟨hx, hb, hml, hown, hts⟩ (m_Md_order l dC dI cI cB cL cZ cR cBB cZZ cII md hsA (md_tape) (md_size) (md_thrown) (md_fault) (md_bytes) (md_used) (md_at) (md_length) (md_depAt) (md_firstChange) (md_deps) (md_patches) (md_sort) (.ref ofM) (md_fileOf) (md_one) (md_two) (md_nameAt) (md_nameSize) (md_overAt) (md_overCount) (md_lineAt) (md_lineCount) (md_changes) (md_overs) (md_overTotal) (md_lineChange) (md_textAt) (md_textSize) (md_lines) (md_fileChange) (md_fileLines) (md_files) (md_sets) (md_stamp) (md_digest) (md_in) (md_pos) (md_stop) (md_wrong) (md_dep) (md_named) (md_depCount) (md_own) (md_refFile) (md_full) (md_h) (md_counts) (md_marked) (md_namings) (md_namingCount) (md_listed) (md_listedCount) (md_listedStamp) (md_member) (md_text) (md_place) (md_dead) (md_edge) (md_way) (md_members) (md_textLines) (md_unsure) (md_workedRepository) (md_workedFile) (md_workedStamp) (md_stack) (md_before) (md_left) (md_made) (md_madeSize) (md_need) (md_needs) (md_newAt) (md_newSize) (md_news) (md_common) (md_keptAs) (md_isNew) (md_keptFrom) (md_stateOf) (md_rising) gh G P9 (PC c1) (PC c2) s.heap.size hGn hP9 hgh (by omega) (by omega)) (cwV 2 hts (xg_V gw_1890 gw_1892 (xg_p 103 (q := (⟨"PatchStoreModel", "order", "(II)I"⟩, 83)) (by decide +kernel)) gw_13 gw_1893) rfl rfl rfl (by decide +kernel) ⟨Nat.le_of_ble_eq_true rfl, Nat.le_of_ble_eq_true rfl⟩) ⟨xw_blind, va_recv hK hPc (ci := 12) (q0 := 0) rfl rfl, fun U hU hW => ⟨rfl, by rw [hU], by rw [hU]; exact hPc, va_K.moved hW.alike hK, hDc.weaken (fun _ _ _ _ => trivial)⟩⟩ rfl rfl hl.1 rfl (lv_room (Nat.le_of_ble_eq_true rfl)) d_Md_keyOrder_28 ⟨Nat.le_of_ble_eq_true rfl, Nat.le_of_ble_eq_true rfl⟩) hS (fun q _ h => hFc q h) hFc (fun r9 u t H1 locs ht hvm hw hB hz1 hk1 hS => ?_)
    obtain ⟨hP1, hK1, hD1⟩ := hB
    rw [ht] at hP1
    obtain ⟨hP, hD⟩ := va_joinP (wr := [(ofM, .inl (cI, 38000, .inl of))]) (rx := [(md, .inr (12, [md_tape, md_size, md_thrown, md_fault, md_bytes, md_used, md_at, md_length, md_depAt, md_firstChange, .ref hsA, md_deps, md_patches, md_sort, .ref ofM, md_fileOf, md_one, md_two, md_nameAt, md_nameSize, md_overAt, md_overCount, md_lineAt, md_lineCount, md_changes, md_overs, md_overTotal, md_lineChange, md_textAt, md_textSize, md_lines, md_fileChange, md_fileLines, md_files, md_sets, md_stamp, md_digest, md_in, md_pos, md_stop, md_wrong, md_dep, md_named, md_depCount, md_own, md_refFile, md_full, md_h, md_counts, md_marked, md_namings, md_namingCount, md_listed, md_listedCount, md_listedStamp, md_member, md_text, md_place, md_dead, md_edge, md_way, md_members, md_textLines, md_unsure, md_workedRepository, md_workedFile, md_workedStamp, md_stack, md_before, md_left, md_made, md_madeSize, md_need, md_needs, md_newAt, md_newSize, md_news, md_common, md_keptAs, md_isNew, md_keptFrom, md_stateOf, md_rising])), (hsA, .inl (cBB, 500, .inr (.inr (.inr (.inr gh)))))]) (pl1 := gdA cI cB cZ G) hP hD [0, 2] [1] rfl rfl (by decide) (by decide) hk1 hFc hP1 hD1
    generalize H1 = H at hP hS ⊢
    have hP : va_P (dC, dI) classes ([(ofM, .inl (cI, 38000, .inl of)), (md, .inr (12, [md_tape, md_size, md_thrown, md_fault, md_bytes, md_used, md_at, md_length, md_depAt, md_firstChange, .ref hsA, md_deps, md_patches, md_sort, .ref ofM, md_fileOf, md_one, md_two, md_nameAt, md_nameSize, md_overAt, md_overCount, md_lineAt, md_lineCount, md_changes, md_overs, md_overTotal, md_lineChange, md_textAt, md_textSize, md_lines, md_fileChange, md_fileLines, md_files, md_sets, md_stamp, md_digest, md_in, md_pos, md_stop, md_wrong, md_dep, md_named, md_depCount, md_own, md_refFile, md_full, md_h, md_counts, md_marked, md_namings, md_namingCount, md_listed, md_listedCount, md_listedStamp, md_member, md_text, md_place, md_dead, md_edge, md_way, md_members, md_textLines, md_unsure, md_workedRepository, md_workedFile, md_workedStamp, md_stack, md_before, md_left, md_made, md_madeSize, md_need, md_needs, md_newAt, md_newSize, md_news, md_common, md_keptAs, md_isNew, md_keptFrom, md_stateOf, md_rising])), (hsA, .inl (cBB, 500, .inr (.inr (.inr (.inr gh)))))] ++ gdA cI cB cZ G) H := hP
    have hD : va_D A ([(ofM, .inl (cI, 38000, .inl of)), (md, .inr (12, [md_tape, md_size, md_thrown, md_fault, md_bytes, md_used, md_at, md_length, md_depAt, md_firstChange, .ref hsA, md_deps, md_patches, md_sort, .ref ofM, md_fileOf, md_one, md_two, md_nameAt, md_nameSize, md_overAt, md_overCount, md_lineAt, md_lineCount, md_changes, md_overs, md_overTotal, md_lineChange, md_textAt, md_textSize, md_lines, md_fileChange, md_fileLines, md_files, md_sets, md_stamp, md_digest, md_in, md_pos, md_stop, md_wrong, md_dep, md_named, md_depCount, md_own, md_refFile, md_full, md_h, md_counts, md_marked, md_namings, md_namingCount, md_listed, md_listedCount, md_listedStamp, md_member, md_text, md_place, md_dead, md_edge, md_way, md_members, md_textLines, md_unsure, md_workedRepository, md_workedFile, md_workedStamp, md_stack, md_before, md_left, md_made, md_madeSize, md_need, md_needs, md_newAt, md_newSize, md_news, md_common, md_keptAs, md_isNew, md_keptFrom, md_stateOf, md_rising])), (hsA, .inl (cBB, 500, .inr (.inr (.inr (.inr gh)))))] ++ gdA cI cB cZ G) := hD
    subst hw
    have hP := va_P.part (cx := [(md, .inr (12, [md_tape, md_size, md_thrown, md_fault, md_bytes, md_used, md_at, md_length, md_depAt, md_firstChange, .ref hsA, md_deps, md_patches, md_sort, .ref ofM, md_fileOf, md_one, md_two, md_nameAt, md_nameSize, md_overAt, md_overCount, md_lineAt, md_lineCount, md_changes, md_overs, md_overTotal, md_lineChange, md_textAt, md_textSize, md_lines, md_fileChange, md_fileLines, md_files, md_sets, md_stamp, md_digest, md_in, md_pos, md_stop, md_wrong, md_dep, md_named, md_depCount, md_own, md_refFile, md_full, md_h, md_counts, md_marked, md_namings, md_namingCount, md_listed, md_listedCount, md_listedStamp, md_member, md_text, md_place, md_dead, md_edge, md_way, md_members, md_textLines, md_unsure, md_workedRepository, md_workedFile, md_workedStamp, md_stack, md_before, md_left, md_made, md_madeSize, md_need, md_needs, md_newAt, md_newSize, md_news, md_common, md_keptAs, md_isNew, md_keptFrom, md_stateOf, md_rising])), (ofM, .inl (cI, 38000, .inl of)), (hsA, .inl (cBB, 500, .inr (.inr (.inr (.inr gh)))))]) hP [1, 0, 2] rfl
    have hD := va_D.part (cx := [(md, .inr (12, [md_tape, md_size, md_thrown, md_fault, md_bytes, md_used, md_at, md_length, md_depAt, md_firstChange, .ref hsA, md_deps, md_patches, md_sort, .ref ofM, md_fileOf, md_one, md_two, md_nameAt, md_nameSize, md_overAt, md_overCount, md_lineAt, md_lineCount, md_changes, md_overs, md_overTotal, md_lineChange, md_textAt, md_textSize, md_lines, md_fileChange, md_fileLines, md_files, md_sets, md_stamp, md_digest, md_in, md_pos, md_stop, md_wrong, md_dep, md_named, md_depCount, md_own, md_refFile, md_full, md_h, md_counts, md_marked, md_namings, md_namingCount, md_listed, md_listedCount, md_listedStamp, md_member, md_text, md_place, md_dead, md_edge, md_way, md_members, md_textLines, md_unsure, md_workedRepository, md_workedFile, md_workedStamp, md_stack, md_before, md_left, md_made, md_madeSize, md_need, md_needs, md_newAt, md_newSize, md_news, md_common, md_keptAs, md_isNew, md_keptFrom, md_stateOf, md_rising])), (ofM, .inl (cI, 38000, .inl of)), (hsA, .inl (cBB, 500, .inr (.inr (.inr (.inr gh)))))]) hD [1, 0, 2] (by decide) rfl
    exact W.iret (v := bo (G.H (PC c1)) (G.H (PC c2)) 0 0 32) hx hb hr (fun t ht hW => ⟨⟨_, (), rfl, bo_gt.trans ⟨fun z => Or.inr ⟨n_12, z⟩, fun z => z.elim (fun y => absurd y.1 n_12) (fun y => y.2)⟩, by rw [ht]; exact hP, va_K.moved hW.alike hK, hD⟩, hS.F ht⟩) hS.2.2 d_Md_keyOrder_31
set_option maxHeartbeats 4000000 in
set_option maxRecDepth 100000 in
/-- whether a naming is there -/
theorem m_Md_isThere (l : Launch) (dC : Nat → ClassId) (dI : Nat → Nat → Nat) (cI cB cL cZ cR cBB cZZ cII : ClassId) (md stA sr ofM nsM srM foM ocM ovM oaM : Nat) (md_tape md_size md_thrown md_fault md_bytes md_used md_at md_length md_depAt md_firstChange md_hashes md_deps md_patches md_one md_two md_nameAt md_lineAt md_lineCount md_overTotal md_lineChange md_textAt md_textSize md_lines md_fileChange md_fileLines md_files md_stamp md_digest md_in md_pos md_stop md_wrong md_dep md_named md_depCount md_own md_refFile md_full md_h md_counts md_marked md_namings md_namingCount md_listed md_listedCount md_listedStamp md_member md_text md_place md_dead md_edge md_way md_members md_textLines md_unsure md_workedRepository md_workedFile md_workedStamp md_stack md_before md_left md_made md_madeSize md_need md_needs md_newAt md_newSize md_news md_common md_keptAs md_isNew md_keptFrom md_stateOf md_rising : Value) (sf of ns so fo oc ov oa : Nat → Int32) (gs : Nat → Option Nat) (PC KD CF OC OA NS : Nat → Nat) (OX : Nat → Nat → Nat) (NC r9 c9 : Nat) (sz : Nat) (hmv : mvR NC PC KD CF OC OA OX of so fo oc oa ov) (hs01 : ∀ q, q < 500 → sf q = 0 ∨ sf q = 1) (hr9 : r9 < 8) (hgs : gs r9 = some sr) (hc9 : c9 < NC) (hkd9 : KD c9 ≤ 1) (hns : ns c9 = nI (NS c9)) (hns6 : NS c9 ≤ 64) : Met l y_Md_isThere ws_Md_isThere ({ frames := 0, cells := 0, slots := 0, locals := 0 }) (xw_Pc dC dI [(cI, .int), (cB, .byte), (cL, .long), (cZ, .boolean), (cR, .object "PatchStore$Repository"), (cBB, .array .byte), (cZZ, .array .boolean), (cII, .array .int)] [.ref md, .int (nI r9), .int (nI c9)] [(md, .inr (12, [md_tape, md_size, md_thrown, md_fault, md_bytes, md_used, md_at, md_length, md_depAt, md_firstChange, md_hashes, md_deps, md_patches, .ref srM, .ref ofM, .ref foM, md_one, md_two, md_nameAt, .ref nsM, .ref oaM, .ref ocM, md_lineAt, md_lineCount, .int (nI NC), .ref ovM, md_overTotal, md_lineChange, md_textAt, md_textSize, md_lines, md_fileChange, md_fileLines, md_files, .ref stA, md_stamp, md_digest, md_in, md_pos, md_stop, md_wrong, md_dep, md_named, md_depCount, md_own, md_refFile, md_full, md_h, md_counts, md_marked, md_namings, md_namingCount, md_listed, md_listedCount, md_listedStamp, md_member, md_text, md_place, md_dead, md_edge, md_way, md_members, md_textLines, md_unsure, md_workedRepository, md_workedFile, md_workedStamp, md_stack, md_before, md_left, md_made, md_madeSize, md_need, md_needs, md_newAt, md_newSize, md_news, md_common, md_keptAs, md_isNew, md_keptFrom, md_stateOf, md_rising])), (stA, .inl (cZZ, 8, .inr (.inr (.inr (.inr gs))))), (sr, .inl (cZ, 500, .inl sf)), (ofM, .inl (cI, 38000, .inl of)), (nsM, .inl (cI, 38000, .inl ns)), (srM, .inl (cI, 38000, .inl so)), (foM, .inl (cI, 38000, .inl fo)), (ocM, .inl (cI, 38000, .inl oc)), (ovM, .inl (cI, 70000, .inl ov)), (oaM, .inl (cI, 38000, .inl oa))] sz) (va_Qi (fun (r : Int32) (_ : Unit) => (r = 1 ∧ isT sf NC PC KD CF OC NS OX c9) ∨ (r = 0 ∧ ¬ isT sf NC PC KD CF OC NS OX c9)) (fun _ t => xw_B dC dI [(cI, .int), (cB, .byte), (cL, .long), (cZ, .boolean), (cR, .object "PatchStore$Repository"), (cBB, .array .byte), (cZZ, .array .boolean), (cII, .array .int)] (va_A [(md, .inr (12, [md_tape, md_size, md_thrown, md_fault, md_bytes, md_used, md_at, md_length, md_depAt, md_firstChange, md_hashes, md_deps, md_patches, .ref srM, .ref ofM, .ref foM, md_one, md_two, md_nameAt, .ref nsM, .ref oaM, .ref ocM, md_lineAt, md_lineCount, .int (nI NC), .ref ovM, md_overTotal, md_lineChange, md_textAt, md_textSize, md_lines, md_fileChange, md_fileLines, md_files, .ref stA, md_stamp, md_digest, md_in, md_pos, md_stop, md_wrong, md_dep, md_named, md_depCount, md_own, md_refFile, md_full, md_h, md_counts, md_marked, md_namings, md_namingCount, md_listed, md_listedCount, md_listedStamp, md_member, md_text, md_place, md_dead, md_edge, md_way, md_members, md_textLines, md_unsure, md_workedRepository, md_workedFile, md_workedStamp, md_stack, md_before, md_left, md_made, md_madeSize, md_need, md_needs, md_newAt, md_newSize, md_news, md_common, md_keptAs, md_isNew, md_keptFrom, md_stateOf, md_rising])), (stA, .inl (cZZ, 8, .inr (.inr (.inr (.inr gs))))), (sr, .inl (cZ, 500, .inl sf)), (ofM, .inl (cI, 38000, .inl of)), (nsM, .inl (cI, 38000, .inl ns)), (srM, .inl (cI, 38000, .inl so)), (foM, .inl (cI, 38000, .inl fo)), (ocM, .inl (cI, 38000, .inl oc)), (ovM, .inl (cI, 70000, .inl ov)), (oaM, .inl (cI, 38000, .inl oa))] sz) [(md, .inr (12, [md_tape, md_size, md_thrown, md_fault, md_bytes, md_used, md_at, md_length, md_depAt, md_firstChange, md_hashes, md_deps, md_patches, .ref srM, .ref ofM, .ref foM, md_one, md_two, md_nameAt, .ref nsM, .ref oaM, .ref ocM, md_lineAt, md_lineCount, .int (nI NC), .ref ovM, md_overTotal, md_lineChange, md_textAt, md_textSize, md_lines, md_fileChange, md_fileLines, md_files, .ref stA, md_stamp, md_digest, md_in, md_pos, md_stop, md_wrong, md_dep, md_named, md_depCount, md_own, md_refFile, md_full, md_h, md_counts, md_marked, md_namings, md_namingCount, md_listed, md_listedCount, md_listedStamp, md_member, md_text, md_place, md_dead, md_edge, md_way, md_members, md_textLines, md_unsure, md_workedRepository, md_workedFile, md_workedStamp, md_stack, md_before, md_left, md_made, md_madeSize, md_need, md_needs, md_newAt, md_newSize, md_news, md_common, md_keptAs, md_isNew, md_keptFrom, md_stateOf, md_rising])), (stA, .inl (cZZ, 8, .inr (.inr (.inr (.inr gs))))), (sr, .inl (cZ, 500, .inl sf)), (ofM, .inl (cI, 38000, .inl of)), (nsM, .inl (cI, 38000, .inl ns)), (srM, .inl (cI, 38000, .inl so)), (foM, .inl (cI, 38000, .inl fo)), (ocM, .inl (cI, 38000, .inl oc)), (ovM, .inl (cI, 70000, .inl ov)), (oaM, .inl (cI, 38000, .inl oa))] t) (va_A [(md, .inr (12, [md_tape, md_size, md_thrown, md_fault, md_bytes, md_used, md_at, md_length, md_depAt, md_firstChange, md_hashes, md_deps, md_patches, .ref srM, .ref ofM, .ref foM, md_one, md_two, md_nameAt, .ref nsM, .ref oaM, .ref ocM, md_lineAt, md_lineCount, .int (nI NC), .ref ovM, md_overTotal, md_lineChange, md_textAt, md_textSize, md_lines, md_fileChange, md_fileLines, md_files, .ref stA, md_stamp, md_digest, md_in, md_pos, md_stop, md_wrong, md_dep, md_named, md_depCount, md_own, md_refFile, md_full, md_h, md_counts, md_marked, md_namings, md_namingCount, md_listed, md_listedCount, md_listedStamp, md_member, md_text, md_place, md_dead, md_edge, md_way, md_members, md_textLines, md_unsure, md_workedRepository, md_workedFile, md_workedStamp, md_stack, md_before, md_left, md_made, md_madeSize, md_need, md_needs, md_newAt, md_newSize, md_news, md_common, md_keptAs, md_isNew, md_keptFrom, md_stateOf, md_rising])), (stA, .inl (cZZ, 8, .inr (.inr (.inr (.inr gs))))), (sr, .inl (cZ, 500, .inl sf)), (ofM, .inl (cI, 38000, .inl of)), (nsM, .inl (cI, 38000, .inl ns)), (srM, .inl (cI, 38000, .inl so)), (foM, .inl (cI, 38000, .inl fo)), (ocM, .inl (cI, 38000, .inl oc)), (ovM, .inl (cI, 70000, .inl ov)), (oaM, .inl (cI, 38000, .inl oa))] sz)) 0 0 (va_A [(md, .inr (12, [md_tape, md_size, md_thrown, md_fault, md_bytes, md_used, md_at, md_length, md_depAt, md_firstChange, md_hashes, md_deps, md_patches, .ref srM, .ref ofM, .ref foM, md_one, md_two, md_nameAt, .ref nsM, .ref oaM, .ref ocM, md_lineAt, md_lineCount, .int (nI NC), .ref ovM, md_overTotal, md_lineChange, md_textAt, md_textSize, md_lines, md_fileChange, md_fileLines, md_files, .ref stA, md_stamp, md_digest, md_in, md_pos, md_stop, md_wrong, md_dep, md_named, md_depCount, md_own, md_refFile, md_full, md_h, md_counts, md_marked, md_namings, md_namingCount, md_listed, md_listedCount, md_listedStamp, md_member, md_text, md_place, md_dead, md_edge, md_way, md_members, md_textLines, md_unsure, md_workedRepository, md_workedFile, md_workedStamp, md_stack, md_before, md_left, md_made, md_madeSize, md_need, md_needs, md_newAt, md_newSize, md_news, md_common, md_keptAs, md_isNew, md_keptFrom, md_stateOf, md_rising])), (stA, .inl (cZZ, 8, .inr (.inr (.inr (.inr gs))))), (sr, .inl (cZ, 500, .inl sf)), (ofM, .inl (cI, 38000, .inl of)), (nsM, .inl (cI, 38000, .inl ns)), (srM, .inl (cI, 38000, .inl so)), (foM, .inl (cI, 38000, .inl fo)), (ocM, .inl (cI, 38000, .inl oc)), (ovM, .inl (cI, 70000, .inl ov)), (oaM, .inl (cI, 38000, .inl oa))] sz) := by
  refine Met.ofW (cc := prog_14_method_35_code) (maxL := 5) (ret := (Option.some Jvm.ClassFile.FieldType.boolean)) (by decide) rfl ?_
  intro p e s m args below meth c s₁ B hml hv
  obtain ⟨rfl, hsz, hP, hK, hD0⟩ := hv
  have hx := B.exec
  have hb := B.bytes
  have hr := B.returns
  have hts0 := atoms_spec (ws := ws_Md_isThere) B.pre
  have hts : ∀ w ∈ xg_1, w.before _ s = true := fun w h => hts0 w (List.mem_cons_of_mem _ h)
  have hown : s.vm.findClass "PatchStoreModel" = some m.cls := findClass_of_methodNamed B.named
  have hlocks := B.notSynchronized
  subst hsz
  have hD := hD0.self (sz := s.heap.size)
  generalize hAe : va_A [(md, .inr (12, [md_tape, md_size, md_thrown, md_fault, md_bytes, md_used, md_at, md_length, md_depAt, md_firstChange, md_hashes, md_deps, md_patches, .ref srM, .ref ofM, .ref foM, md_one, md_two, md_nameAt, .ref nsM, .ref oaM, .ref ocM, md_lineAt, md_lineCount, .int (nI NC), .ref ovM, md_overTotal, md_lineChange, md_textAt, md_textSize, md_lines, md_fileChange, md_fileLines, md_files, .ref stA, md_stamp, md_digest, md_in, md_pos, md_stop, md_wrong, md_dep, md_named, md_depCount, md_own, md_refFile, md_full, md_h, md_counts, md_marked, md_namings, md_namingCount, md_listed, md_listedCount, md_listedStamp, md_member, md_text, md_place, md_dead, md_edge, md_way, md_members, md_textLines, md_unsure, md_workedRepository, md_workedFile, md_workedStamp, md_stack, md_before, md_left, md_made, md_madeSize, md_need, md_needs, md_newAt, md_newSize, md_news, md_common, md_keptAs, md_isNew, md_keptFrom, md_stateOf, md_rising])), (stA, .inl (cZZ, 8, .inr (.inr (.inr (.inr gs))))), (sr, .inl (cZ, 500, .inl sf)), (ofM, .inl (cI, 38000, .inl of)), (nsM, .inl (cI, 38000, .inl ns)), (srM, .inl (cI, 38000, .inl so)), (foM, .inl (cI, 38000, .inl fo)), (ocM, .inl (cI, 38000, .inl oc)), (ovM, .inl (cI, 70000, .inl ov)), (oaM, .inl (cI, 38000, .inl oa))] s.heap.size = A at hD ⊢
  have hA : ∀ q : Nat, s.heap.size ≤ q → A q := fun q h => by rw [← hAe]; exact Or.inr h
  have hS : va_S A s.heap s.heap [] := va_S.rf
  have hl := lv_entry ([.ref md, .int (nI r9), .int (nI c9)]) (n := 5) (Nat.le_of_ble_eq_true rfl)
  rw [lg_entry_eq]
  generalize (lg_sl ([.ref md, .int (nI r9), .int (nI c9)]) ++ List.replicate (5 - (lg_sl ([.ref md, .int (nI r9), .int (nI c9)])).length) Slot.unset).toArray = ls at hl ⊢
  have hl : lv_has ls 5 [(0, .ref md), (1, .int (nI r9)), (2, .int (nI c9))] := hl
  generalize hQe : MQ _ _ _ _ _ _ _ = Q
  have hNC := hmv.1
  have hv9 := hmv.2.1 c9 hc9
  have hf9 := hmv.2.2.1 c9 hc9 hkd9
  have hv95 := hv9.2.1
  refine lv_aload_n hx hb d_Md_isThere_0 rfl (lv_at hl 0 rfl) ?_
  refine va_get (D := (dC, dI)) (ci := 12) (v := .ref stA) (C := R_Md) (T := F_Md) (N := 83) hx hb hts i_Md hown hK hP 0 rfl rfl 34 (by decide) (hts _ gw_1452) (fun _ h9 => h9) rfl d_Md_isThere_1 ?_
  refine lv_iload_n hx hb d_Md_isThere_4 rfl (lv_at hl 1 rfl) ?_
  refine xq_ald hx hb hK hP 1 6 rfl rfl (y := sr) (vp_in_nI (by omega) (by omega)) (by rw [show (nI r9).toNatClampNeg = r9 from nI_clamp (by omega)]; exact hgs) d_Md_isThere_5 ?_
  refine lv_aload_n hx hb d_Md_isThere_6 rfl (lv_at hl 0 rfl) ?_
  refine va_get (D := (dC, dI)) (ci := 12) (v := .ref ofM) (C := R_Md) (T := F_Md) (N := 83) hx hb hts i_Md hown hK hP 0 rfl rfl 14 (by decide) (hts _ gw_1432) (fun _ h9 => h9) rfl d_Md_isThere_7 ?_
  refine lv_iload_n hx hb d_Md_isThere_10 rfl (lv_at hl 2 rfl) ?_
  refine va_iald hx hb hK hP 3 0 rfl rfl (vp_in_nI (by omega) (by omega)) d_Md_isThere_11 ?_
  rw [show (nI c9).toNatClampNeg = c9 from nI_clamp (by omega)]
  refine lv_topi (fun x_1 ex_1 => ?_)
  obtain rfl : x_1 = nI (PC c9) := by rw [ex_1]; first | done | (exact (hmv.2.1 c9 hc9).1)
  refine va_zald hx hb hK hP 2 3 rfl rfl (vp_in_nI (by omega) (by omega)) d_Md_isThere_12 ?_
  rw [show (nI (PC c9)).toNatClampNeg = (PC c9) from nI_clamp (by omega)]
  refine lv_if_eq (tgt := 25) hx hb d_Md_isThere_13 (by decide) (fun c_13 => ?_) (fun c_13 => ?_)
  · refine lv_iconst (v := 0) hx hb d_Md_isThere_25 (by decide) ?_
    rw [← hQe]
    exact W.zret (v := 0) hx hb hr nz_b0 (fun t ht hW => ⟨⟨_, (), rfl, Or.inr ⟨rfl, fun z => absurd z.1 (by rw [c_13]; decide)⟩, by rw [ht]; exact hP, va_K.moved hW.alike hK, hD⟩, hS.F ht⟩) hS.2.2 d_Md_isThere_26
  · have hs1 : sf (PC c9) = 1 := (hs01 _ hv95).resolve_left c_13
    refine lv_aload_n hx hb d_Md_isThere_16 rfl (lv_at hl 0 rfl) ?_
    refine va_get (D := (dC, dI)) (ci := 12) (v := .ref nsM) (C := R_Md) (T := F_Md) (N := 83) hx hb hts i_Md hown hK hP 0 rfl rfl 19 (by decide) (hts _ gw_1437) (fun _ h9 => h9) rfl d_Md_isThere_17 ?_
    refine lv_iload_n hx hb d_Md_isThere_20 rfl (lv_at hl 2 rfl) ?_
    refine va_iald hx hb hK hP 4 0 rfl rfl (vp_in_nI (by omega) (by omega)) d_Md_isThere_21 ?_
    rw [show (nI c9).toNatClampNeg = c9 from nI_clamp (by omega)]
    refine lv_topi (fun x_2 ex_2 => ?_)
    obtain rfl : x_2 = nI (NS c9) := by rw [ex_2]; first | done | (exact hns)
    refine lv_if_ne (tgt := 27) hx hb d_Md_isThere_22 (by decide) (fun c_22 => ?_) (fun c_22 => ?_)
    · have n_22 : ¬ (NS c9) = 0 := fun z => c_22 ((nI_eq (a := (NS c9)) (b := 0) (by omega) (by omega)).mpr z)
      refine lv_iconst (v := 0) hx hb d_Md_isThere_27 (by decide) ?_
      refine lv_istore_n (lv' := [(3, .int 0), (0, .ref md), (1, .int (nI r9)), (2, .int (nI c9))]) hx hb d_Md_isThere_28 rfl hl (by decide) rfl (fun ls hl => ?_)
      have loop_29 : ∀ (n9 : Nat) (x : Nat) (H : Heap) (locs : List Loc) (ls : Array Slot), NC - x < n9 → (x ≤ NC) → (∀ q, q < x → (KD q = 1 → CF q = CF c9 → sf (PC q) = 1 → ∀ i, i < OC q → ¬ OX q i = c9)) → va_P (dC, dI) classes [(md, .inr (12, [md_tape, md_size, md_thrown, md_fault, md_bytes, md_used, md_at, md_length, md_depAt, md_firstChange, md_hashes, md_deps, md_patches, .ref srM, .ref ofM, .ref foM, md_one, md_two, md_nameAt, .ref nsM, .ref oaM, .ref ocM, md_lineAt, md_lineCount, .int (nI NC), .ref ovM, md_overTotal, md_lineChange, md_textAt, md_textSize, md_lines, md_fileChange, md_fileLines, md_files, .ref stA, md_stamp, md_digest, md_in, md_pos, md_stop, md_wrong, md_dep, md_named, md_depCount, md_own, md_refFile, md_full, md_h, md_counts, md_marked, md_namings, md_namingCount, md_listed, md_listedCount, md_listedStamp, md_member, md_text, md_place, md_dead, md_edge, md_way, md_members, md_textLines, md_unsure, md_workedRepository, md_workedFile, md_workedStamp, md_stack, md_before, md_left, md_made, md_madeSize, md_need, md_needs, md_newAt, md_newSize, md_news, md_common, md_keptAs, md_isNew, md_keptFrom, md_stateOf, md_rising])), (stA, .inl (cZZ, 8, .inr (.inr (.inr (.inr gs))))), (sr, .inl (cZ, 500, .inl sf)), (ofM, .inl (cI, 38000, .inl of)), (nsM, .inl (cI, 38000, .inl ns)), (srM, .inl (cI, 38000, .inl so)), (foM, .inl (cI, 38000, .inl fo)), (ocM, .inl (cI, 38000, .inl oc)), (ovM, .inl (cI, 70000, .inl ov)), (oaM, .inl (cI, 38000, .inl oa))] H → va_D A [(md, .inr (12, [md_tape, md_size, md_thrown, md_fault, md_bytes, md_used, md_at, md_length, md_depAt, md_firstChange, md_hashes, md_deps, md_patches, .ref srM, .ref ofM, .ref foM, md_one, md_two, md_nameAt, .ref nsM, .ref oaM, .ref ocM, md_lineAt, md_lineCount, .int (nI NC), .ref ovM, md_overTotal, md_lineChange, md_textAt, md_textSize, md_lines, md_fileChange, md_fileLines, md_files, .ref stA, md_stamp, md_digest, md_in, md_pos, md_stop, md_wrong, md_dep, md_named, md_depCount, md_own, md_refFile, md_full, md_h, md_counts, md_marked, md_namings, md_namingCount, md_listed, md_listedCount, md_listedStamp, md_member, md_text, md_place, md_dead, md_edge, md_way, md_members, md_textLines, md_unsure, md_workedRepository, md_workedFile, md_workedStamp, md_stack, md_before, md_left, md_made, md_madeSize, md_need, md_needs, md_newAt, md_newSize, md_news, md_common, md_keptAs, md_isNew, md_keptFrom, md_stateOf, md_rising])), (stA, .inl (cZZ, 8, .inr (.inr (.inr (.inr gs))))), (sr, .inl (cZ, 500, .inl sf)), (ofM, .inl (cI, 38000, .inl of)), (nsM, .inl (cI, 38000, .inl ns)), (srM, .inl (cI, 38000, .inl so)), (foM, .inl (cI, 38000, .inl fo)), (ocM, .inl (cI, 38000, .inl oc)), (ovM, .inl (cI, 70000, .inl ov)), (oaM, .inl (cI, 38000, .inl oa))] → va_S A s.heap H locs → lv_has ls 5 [(0, .ref md), (1, .int (nI r9)), (2, .int (nI c9)), (3, .int (nI x))] → W p l e (headSpec ws_Md_isThere ({ frames := 0, cells := 0, slots := 0, locals := 0 })).room s m ([.ref md, .int (nI r9), .int (nI c9)] : List Value).toArray below meth c H locs 0 0 Q (F0 m 29 ls []) := by
        intro n9
        induction n9 with
        | zero => intro x H locs ls hm; exact absurd hm (Nat.not_lt_zero _)
        | succ n9 ih_29 =>
          intro x H locs ls hm hxn hall hP hD hS hl
          refine lv_iload_n hx hb d_Md_isThere_29 rfl (lv_at hl 3 rfl) ?_
          refine lv_aload_n hx hb d_Md_isThere_30 rfl (lv_at hl 0 rfl) ?_
          refine va_get (D := (dC, dI)) (ci := 12) (v := .int (nI NC)) (C := R_Md) (T := F_Md) (N := 83) hx hb hts i_Md hown hK hP 0 rfl rfl 24 (by decide) (hts _ gw_1442) (fun _ h9 => h9) rfl d_Md_isThere_31 ?_
          refine lv_icmp_ge (tgt := 127) hx hb d_Md_isThere_34 (by decide) (fun c_34 => ?_) (fun c_34 => ?_)
          · have n_34 : NC ≤ x := (nI_leI (a := NC) (b := x) (by omega) (by omega)).mp c_34
            refine lv_iconst (v := 1) hx hb d_Md_isThere_127 (by decide) ?_
            rw [← hQe]
            exact W.zret (v := 1) hx hb hr nz_b1 (fun t ht hW => ⟨⟨_, (), rfl, Or.inl ⟨rfl, hs1, n_22, fun q z => hall q (by omega)⟩, by rw [ht]; exact hP, va_K.moved hW.alike hK, hD⟩, hS.F ht⟩) hS.2.2 d_Md_isThere_128
          · have n_34 : x < NC := Nat.lt_of_not_le (fun z => c_34 ((nI_leI (a := NC) (b := x) (by omega) (by omega)).mpr z))
            have hvx := hmv.2.1 x n_34
            have hvx5 := hvx.2.1
            have hvx4 := hvx.2.2.2
            refine lv_aload_n hx hb d_Md_isThere_37 rfl (lv_at hl 0 rfl) ?_
            refine va_get (D := (dC, dI)) (ci := 12) (v := .ref srM) (C := R_Md) (T := F_Md) (N := 83) hx hb hts i_Md hown hK hP 0 rfl rfl 13 (by decide) (hts _ gw_1431) (fun _ h9 => h9) rfl d_Md_isThere_38 ?_
            refine lv_iload_n hx hb d_Md_isThere_41 rfl (lv_at hl 3 rfl) ?_
            refine va_iald hx hb hK hP 5 0 rfl rfl (vp_in_nI (by omega) (by omega)) d_Md_isThere_42 ?_
            rw [show (nI x).toNatClampNeg = x from nI_clamp (by omega)]
            refine lv_topi (fun x_3 ex_3 => ?_)
            obtain rfl : x_3 = nI (KD x) := by rw [ex_3]; first | done | (exact hvx.2.2.1)
            refine lv_iconst (v := 1) hx hb d_Md_isThere_43 (by decide) ?_
            refine lv_icmp_ne (tgt := 121) hx hb d_Md_isThere_44 (by decide) (fun c_44 => ?_) (fun c_44 => ?_)
            · have n_44 : ¬ (KD x) = 1 := fun z => c_44 ((nI_eq (a := (KD x)) (b := 1) (by omega) (by omega)).mpr z)
              refine lv_iinc (v := nI (x + 1)) (lv' := [(3, .int (nI (x + 1))), (0, .ref md), (1, .int (nI r9)), (2, .int (nI c9))]) hx hb d_Md_isThere_121 hl (k := 3) rfl (by exact nI_add _ _) (by decide) rfl (fun ls hl => ?_)
              refine lv_goto (tgt := 29) hx hb d_Md_isThere_124 (by decide) ?_
              exact ih_29 (x + 1) _ _ _ (by omega) (by omega) (fun q z => if e9 : q = x then by rw [e9]; exact fun z => absurd z n_44 else hall q (by omega)) hP hD hS (lv_sub hl [1, 2, 3, 0] rfl)
            · have n_44 : (KD x) = 1 := (nI_eq (a := (KD x)) (b := 1) (by omega) (by omega)).mp c_44
              have hfx := hmv.2.2.1 x n_34 (by omega)
              have hfx4 := hfx.2
              have hf94 := hf9.2
              have hox := hmv.2.2.2 x n_34 n_44
              have hox2 := hox.2.1
              have hox4 := hox.2.2.2.1
              refine lv_aload_n hx hb d_Md_isThere_47 rfl (lv_at hl 0 rfl) ?_
              refine va_get (D := (dC, dI)) (ci := 12) (v := .ref foM) (C := R_Md) (T := F_Md) (N := 83) hx hb hts i_Md hown hK hP 0 rfl rfl 15 (by decide) (hts _ gw_1433) (fun _ h9 => h9) rfl d_Md_isThere_48 ?_
              refine lv_iload_n hx hb d_Md_isThere_51 rfl (lv_at hl 3 rfl) ?_
              refine va_iald hx hb hK hP 6 0 rfl rfl (vp_in_nI (by omega) (by omega)) d_Md_isThere_52 ?_
              rw [show (nI x).toNatClampNeg = x from nI_clamp (by omega)]
              refine lv_topi (fun x_4 ex_4 => ?_)
              obtain rfl : x_4 = nI (CF x) := by rw [ex_4]; first | done | (exact hfx.1)
              refine lv_aload_n hx hb d_Md_isThere_53 rfl (lv_at hl 0 rfl) ?_
              refine va_get (D := (dC, dI)) (ci := 12) (v := .ref foM) (C := R_Md) (T := F_Md) (N := 83) hx hb hts i_Md hown hK hP 0 rfl rfl 15 (by decide) (hts _ gw_1433) (fun _ h9 => h9) rfl d_Md_isThere_54 ?_
              refine lv_iload_n hx hb d_Md_isThere_57 rfl (lv_at hl 2 rfl) ?_
              refine va_iald hx hb hK hP 6 0 rfl rfl (vp_in_nI (by omega) (by omega)) d_Md_isThere_58 ?_
              rw [show (nI c9).toNatClampNeg = c9 from nI_clamp (by omega)]
              refine lv_topi (fun x_5 ex_5 => ?_)
              obtain rfl : x_5 = nI (CF c9) := by rw [ex_5]; first | done | (exact hf9.1)
              refine lv_icmp_ne (tgt := 121) hx hb d_Md_isThere_59 (by decide) (fun c_59 => ?_) (fun c_59 => ?_)
              · have n_59 : ¬ (CF x) = (CF c9) := fun z => c_59 ((nI_eq (a := (CF x)) (b := (CF c9)) (by omega) (by omega)).mpr z)
                refine lv_iinc (v := nI (x + 1)) (lv' := [(3, .int (nI (x + 1))), (0, .ref md), (1, .int (nI r9)), (2, .int (nI c9))]) hx hb d_Md_isThere_121 hl (k := 3) rfl (by exact nI_add _ _) (by decide) rfl (fun ls hl => ?_)
                refine lv_goto (tgt := 29) hx hb d_Md_isThere_124 (by decide) ?_
                exact ih_29 (x + 1) _ _ _ (by omega) (by omega) (fun q z => if e9 : q = x then by rw [e9]; exact fun _ z => absurd z n_59 else hall q (by omega)) hP hD hS (lv_sub hl [1, 2, 3, 0] rfl)
              · have n_59 : (CF x) = (CF c9) := (nI_eq (a := (CF x)) (b := (CF c9)) (by omega) (by omega)).mp c_59
                refine lv_aload_n hx hb d_Md_isThere_62 rfl (lv_at hl 0 rfl) ?_
                refine va_get (D := (dC, dI)) (ci := 12) (v := .ref stA) (C := R_Md) (T := F_Md) (N := 83) hx hb hts i_Md hown hK hP 0 rfl rfl 34 (by decide) (hts _ gw_1452) (fun _ h9 => h9) rfl d_Md_isThere_63 ?_
                refine lv_iload_n hx hb d_Md_isThere_66 rfl (lv_at hl 1 rfl) ?_
                refine xq_ald hx hb hK hP 1 6 rfl rfl (y := sr) (vp_in_nI (by omega) (by omega)) (by rw [show (nI r9).toNatClampNeg = r9 from nI_clamp (by omega)]; exact hgs) d_Md_isThere_67 ?_
                refine lv_aload_n hx hb d_Md_isThere_68 rfl (lv_at hl 0 rfl) ?_
                refine va_get (D := (dC, dI)) (ci := 12) (v := .ref ofM) (C := R_Md) (T := F_Md) (N := 83) hx hb hts i_Md hown hK hP 0 rfl rfl 14 (by decide) (hts _ gw_1432) (fun _ h9 => h9) rfl d_Md_isThere_69 ?_
                refine lv_iload_n hx hb d_Md_isThere_72 rfl (lv_at hl 3 rfl) ?_
                refine va_iald hx hb hK hP 3 0 rfl rfl (vp_in_nI (by omega) (by omega)) d_Md_isThere_73 ?_
                rw [show (nI x).toNatClampNeg = x from nI_clamp (by omega)]
                refine lv_topi (fun x_6 ex_6 => ?_)
                obtain rfl : x_6 = nI (PC x) := by rw [ex_6]; first | done | (exact hvx.1)
                refine va_zald hx hb hK hP 2 3 rfl rfl (vp_in_nI (by omega) (by omega)) d_Md_isThere_74 ?_
                rw [show (nI (PC x)).toNatClampNeg = (PC x) from nI_clamp (by omega)]
                refine lv_if_ne (tgt := 81) hx hb d_Md_isThere_75 (by decide) (fun c_75 => ?_) (fun c_75 => ?_)
                · have hs2 : sf (PC x) = 1 := (hs01 _ hvx5).resolve_left c_75
                  refine lv_iconst (v := 0) hx hb d_Md_isThere_81 (by decide) ?_
                  refine lv_istore (lv' := [(4, .int 0), (0, .ref md), (1, .int (nI r9)), (2, .int (nI c9)), (3, .int (nI x))]) hx hb d_Md_isThere_82 hl (by decide) rfl (fun ls hl => ?_)
                  have loop_84 : ∀ (n9 : Nat) (j : Nat) (H : Heap) (locs : List Loc) (ls : Array Slot), OC x - j < n9 → (j ≤ OC x) → (∀ i, i < j → ¬ OX x i = c9) → va_P (dC, dI) classes [(md, .inr (12, [md_tape, md_size, md_thrown, md_fault, md_bytes, md_used, md_at, md_length, md_depAt, md_firstChange, md_hashes, md_deps, md_patches, .ref srM, .ref ofM, .ref foM, md_one, md_two, md_nameAt, .ref nsM, .ref oaM, .ref ocM, md_lineAt, md_lineCount, .int (nI NC), .ref ovM, md_overTotal, md_lineChange, md_textAt, md_textSize, md_lines, md_fileChange, md_fileLines, md_files, .ref stA, md_stamp, md_digest, md_in, md_pos, md_stop, md_wrong, md_dep, md_named, md_depCount, md_own, md_refFile, md_full, md_h, md_counts, md_marked, md_namings, md_namingCount, md_listed, md_listedCount, md_listedStamp, md_member, md_text, md_place, md_dead, md_edge, md_way, md_members, md_textLines, md_unsure, md_workedRepository, md_workedFile, md_workedStamp, md_stack, md_before, md_left, md_made, md_madeSize, md_need, md_needs, md_newAt, md_newSize, md_news, md_common, md_keptAs, md_isNew, md_keptFrom, md_stateOf, md_rising])), (stA, .inl (cZZ, 8, .inr (.inr (.inr (.inr gs))))), (sr, .inl (cZ, 500, .inl sf)), (ofM, .inl (cI, 38000, .inl of)), (nsM, .inl (cI, 38000, .inl ns)), (srM, .inl (cI, 38000, .inl so)), (foM, .inl (cI, 38000, .inl fo)), (ocM, .inl (cI, 38000, .inl oc)), (ovM, .inl (cI, 70000, .inl ov)), (oaM, .inl (cI, 38000, .inl oa))] H → va_D A [(md, .inr (12, [md_tape, md_size, md_thrown, md_fault, md_bytes, md_used, md_at, md_length, md_depAt, md_firstChange, md_hashes, md_deps, md_patches, .ref srM, .ref ofM, .ref foM, md_one, md_two, md_nameAt, .ref nsM, .ref oaM, .ref ocM, md_lineAt, md_lineCount, .int (nI NC), .ref ovM, md_overTotal, md_lineChange, md_textAt, md_textSize, md_lines, md_fileChange, md_fileLines, md_files, .ref stA, md_stamp, md_digest, md_in, md_pos, md_stop, md_wrong, md_dep, md_named, md_depCount, md_own, md_refFile, md_full, md_h, md_counts, md_marked, md_namings, md_namingCount, md_listed, md_listedCount, md_listedStamp, md_member, md_text, md_place, md_dead, md_edge, md_way, md_members, md_textLines, md_unsure, md_workedRepository, md_workedFile, md_workedStamp, md_stack, md_before, md_left, md_made, md_madeSize, md_need, md_needs, md_newAt, md_newSize, md_news, md_common, md_keptAs, md_isNew, md_keptFrom, md_stateOf, md_rising])), (stA, .inl (cZZ, 8, .inr (.inr (.inr (.inr gs))))), (sr, .inl (cZ, 500, .inl sf)), (ofM, .inl (cI, 38000, .inl of)), (nsM, .inl (cI, 38000, .inl ns)), (srM, .inl (cI, 38000, .inl so)), (foM, .inl (cI, 38000, .inl fo)), (ocM, .inl (cI, 38000, .inl oc)), (ovM, .inl (cI, 70000, .inl ov)), (oaM, .inl (cI, 38000, .inl oa))] → va_S A s.heap H locs → lv_has ls 5 [(0, .ref md), (1, .int (nI r9)), (2, .int (nI c9)), (3, .int (nI x)), (4, .int (nI j))] → W p l e (headSpec ws_Md_isThere ({ frames := 0, cells := 0, slots := 0, locals := 0 })).room s m ([.ref md, .int (nI r9), .int (nI c9)] : List Value).toArray below meth c H locs 0 0 Q (F0 m 84 ls []) := by
                    intro n9
                    induction n9 with
                    | zero => intro j H locs ls hm; exact absurd hm (Nat.not_lt_zero _)
                    | succ n9 ih_84 =>
                      intro j H locs ls hm hj hno hP hD hS hl
                      refine lv_iload hx hb d_Md_isThere_84 (lv_at hl 4 rfl) ?_
                      refine lv_aload_n hx hb d_Md_isThere_86 rfl (lv_at hl 0 rfl) ?_
                      refine va_get (D := (dC, dI)) (ci := 12) (v := .ref ocM) (C := R_Md) (T := F_Md) (N := 83) hx hb hts i_Md hown hK hP 0 rfl rfl 21 (by decide) (hts _ gw_1439) (fun _ h9 => h9) rfl d_Md_isThere_87 ?_
                      refine lv_iload_n hx hb d_Md_isThere_90 rfl (lv_at hl 3 rfl) ?_
                      refine va_iald hx hb hK hP 7 0 rfl rfl (vp_in_nI (by omega) (by omega)) d_Md_isThere_91 ?_
                      rw [show (nI x).toNatClampNeg = x from nI_clamp (by omega)]
                      refine lv_topi (fun x_7 ex_7 => ?_)
                      obtain rfl : x_7 = nI (OC x) := by rw [ex_7]; first | done | (exact hox.1)
                      refine lv_icmp_ge (tgt := 121) hx hb d_Md_isThere_92 (by decide) (fun c_92 => ?_) (fun c_92 => ?_)
                      · have n_92 : (OC x) ≤ j := (nI_leI (a := (OC x)) (b := j) (by omega) (by omega)).mp c_92
                        refine lv_iinc (v := nI (x + 1)) (lv' := [(3, .int (nI (x + 1))), (0, .ref md), (1, .int (nI r9)), (2, .int (nI c9)), (4, .int (nI j))]) hx hb d_Md_isThere_121 hl (k := 3) rfl (by exact nI_add _ _) (by decide) rfl (fun ls hl => ?_)
                        refine lv_goto (tgt := 29) hx hb d_Md_isThere_124 (by decide) ?_
                        exact ih_29 (x + 1) _ _ _ (by omega) (by omega) (fun q z => if e9 : q = x then by rw [e9]; exact fun _ _ _ i z => hno i (by omega) else hall q (by omega)) hP hD hS (lv_sub hl [1, 2, 3, 0] rfl)
                      · have n_92 : j < (OC x) := Nat.lt_of_not_le (fun z => c_92 ((nI_leI (a := (OC x)) (b := j) (by omega) (by omega)).mpr z))
                        have hoj := (hox.2.2.2.2 j n_92).2
                        refine lv_aload_n hx hb d_Md_isThere_95 rfl (lv_at hl 0 rfl) ?_
                        refine va_get (D := (dC, dI)) (ci := 12) (v := .ref ovM) (C := R_Md) (T := F_Md) (N := 83) hx hb hts i_Md hown hK hP 0 rfl rfl 25 (by decide) (hts _ gw_1443) (fun _ h9 => h9) rfl d_Md_isThere_96 ?_
                        refine lv_aload_n hx hb d_Md_isThere_99 rfl (lv_at hl 0 rfl) ?_
                        refine va_get (D := (dC, dI)) (ci := 12) (v := .ref oaM) (C := R_Md) (T := F_Md) (N := 83) hx hb hts i_Md hown hK hP 0 rfl rfl 20 (by decide) (hts _ gw_1438) (fun _ h9 => h9) rfl d_Md_isThere_100 ?_
                        refine lv_iload_n hx hb d_Md_isThere_103 rfl (lv_at hl 3 rfl) ?_
                        refine va_iald hx hb hK hP 9 0 rfl rfl (vp_in_nI (by omega) (by omega)) d_Md_isThere_104 ?_
                        rw [show (nI x).toNatClampNeg = x from nI_clamp (by omega)]
                        refine lv_topi (fun x_8 ex_8 => ?_)
                        obtain rfl : x_8 = nI (OA x) := by rw [ex_8]; first | done | (exact hox.2.2.1)
                        refine lv_iload hx hb d_Md_isThere_105 (lv_at hl 4 rfl) ?_
                        refine lv_iadd hx hb d_Md_isThere_107 ?_
                        refine lv_topi (fun x_9 ex_9 => ?_)
                        obtain rfl : x_9 = nI (OA x + j) := by rw [ex_9]; first | done | (exact nI_add _ _)
                        refine va_iald hx hb hK hP 8 0 rfl rfl (vp_in_nI (by omega) (by omega)) d_Md_isThere_108 ?_
                        rw [show (nI (OA x + j)).toNatClampNeg = (OA x + j) from nI_clamp (by omega)]
                        refine lv_topi (fun x_10 ex_10 => ?_)
                        obtain rfl : x_10 = nI (OX x j) := by rw [ex_10]; first | done | (exact (hox.2.2.2.2 j n_92).1)
                        refine lv_iload_n hx hb d_Md_isThere_109 rfl (lv_at hl 2 rfl) ?_
                        refine lv_icmp_ne (tgt := 115) hx hb d_Md_isThere_110 (by decide) (fun c_110 => ?_) (fun c_110 => ?_)
                        · have n_110 : ¬ (OX x j) = c9 := fun z => c_110 ((nI_eq (a := (OX x j)) (b := c9) (by omega) (by omega)).mpr z)
                          refine lv_iinc (v := nI (j + 1)) (lv' := [(4, .int (nI (j + 1))), (0, .ref md), (1, .int (nI r9)), (2, .int (nI c9)), (3, .int (nI x))]) hx hb d_Md_isThere_115 hl (k := 4) rfl (by exact nI_add _ _) (by decide) rfl (fun ls hl => ?_)
                          refine lv_goto (tgt := 84) hx hb d_Md_isThere_118 (by decide) ?_
                          exact ih_84 (j + 1) _ _ _ (by omega) (by omega) (fun i z => if e9 : i = j then by rw [e9]; exact n_110 else hno i (by omega)) hP hD hS (lv_sub hl [1, 2, 3, 4, 0] rfl)
                        · have n_110 : (OX x j) = c9 := (nI_eq (a := (OX x j)) (b := c9) (by omega) (by omega)).mp c_110
                          refine lv_iconst (v := 0) hx hb d_Md_isThere_113 (by decide) ?_
                          rw [← hQe]
                          exact W.zret (v := 0) hx hb hr nz_b0 (fun t ht hW => ⟨⟨_, (), rfl, Or.inr ⟨rfl, fun z => z.2.2 x n_34 n_44 n_59 hs2 j n_92 n_110⟩, by rw [ht]; exact hP, va_K.moved hW.alike hK, hD⟩, hS.F ht⟩) hS.2.2 d_Md_isThere_114
                  exact loop_84 _ 0 _ _ _ (Nat.lt_succ_self _) (Nat.zero_le _) (fun i z => absurd z (Nat.not_lt_zero _)) hP hD hS (lv_sub hl [1, 2, 3, 4, 0] rfl)
                · refine lv_goto (tgt := 121) hx hb d_Md_isThere_78 (by decide) ?_
                  refine lv_iinc (v := nI (x + 1)) (lv' := [(3, .int (nI (x + 1))), (0, .ref md), (1, .int (nI r9)), (2, .int (nI c9))]) hx hb d_Md_isThere_121 hl (k := 3) rfl (by exact nI_add _ _) (by decide) rfl (fun ls hl => ?_)
                  refine lv_goto (tgt := 29) hx hb d_Md_isThere_124 (by decide) ?_
                  exact ih_29 (x + 1) _ _ _ (by omega) (by omega) (fun q z => if e9 : q = x then by rw [e9]; exact fun _ _ z => absurd z (by rw [c_75]; decide) else hall q (by omega)) hP hD hS (lv_sub hl [1, 2, 3, 0] rfl)
      exact loop_29 _ 0 _ _ _ (Nat.lt_succ_self _) (Nat.zero_le _) (fun q z => absurd z (Nat.not_lt_zero _)) hP hD hS (lv_sub hl [1, 2, 3, 0] rfl)
    · have n_22 : (NS c9) = 0 := (nI_eq (a := (NS c9)) (b := 0) (by omega) (by omega)).mp c_22
      refine lv_iconst (v := 0) hx hb d_Md_isThere_25 (by decide) ?_
      rw [← hQe]
      exact W.zret (v := 0) hx hb hr nz_b0 (fun t ht hW => ⟨⟨_, (), rfl, Or.inr ⟨rfl, fun z => z.2.1 n_22⟩, by rw [ht]; exact hP, va_K.moved hW.alike hK, hD⟩, hS.F ht⟩) hS.2.2 d_Md_isThere_26
