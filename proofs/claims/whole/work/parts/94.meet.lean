/-! 94.meet.lean.txt -/
theorem gw_1328 : (Jvm.Cond.methodLink "PatchStore$View" (120 : Nat) ({ cls := "PatchStore$View", name := "bucketOf", desc := "(I)I" } : Jvm.MethodName)) ∈ xg_1 := xg_s6 128 rfl rfl
theorem gw_1330 : (Jvm.Cond.instanceMethod ({ cls := "PatchStore$View", name := "bucketOf", desc := "(I)I" } : Jvm.MethodName)) ∈ xg_1 := xg_s6 130 rfl rfl
theorem gw_1331 : (Jvm.Cond.code ({ cls := "PatchStore$View", name := "bucketOf", desc := "(I)I" } : Jvm.MethodName) prog_12_method_10_code (5 : Nat) (Option.some Jvm.ClassFile.FieldType.int)) ∈ xg_1 := xg_s6 131 rfl rfl
theorem gw_1332 : (Jvm.Cond.methodLink "PatchStore$View" (127 : Nat) ({ cls := "PatchStore$Stock", name := "nameAt", desc := "(I)I" } : Jvm.MethodName)) ∈ xg_1 := xg_s6 132 rfl rfl
theorem gw_1333 : (Jvm.Cond.methodLink "PatchStore$View" (123 : Nat) ({ cls := "PatchStore$View", name := "isSameName", desc := "(II)Z" } : Jvm.MethodName)) ∈ xg_1 := xg_s6 133 rfl rfl
theorem gw_1335 : (Jvm.Cond.instanceMethod ({ cls := "PatchStore$View", name := "isSameName", desc := "(II)Z" } : Jvm.MethodName)) ∈ xg_1 := xg_s6 135 rfl rfl
theorem gw_1336 : (Jvm.Cond.code ({ cls := "PatchStore$View", name := "isSameName", desc := "(II)Z" } : Jvm.MethodName) prog_12_method_11_code (6 : Nat) (Option.some Jvm.ClassFile.FieldType.boolean)) ∈ xg_1 := xg_s6 136 rfl rfl
def y_Vw_isSameName : MethodName := ⟨"PatchStore$View", "isSameName", "(II)Z"⟩
abbrev c_Vw_isSameName : Cond := (Jvm.Cond.code ({ cls := "PatchStore$View", name := "isSameName", desc := "(II)Z" } : Jvm.MethodName) prog_12_method_11_code (6 : Nat) (Option.some Jvm.ClassFile.FieldType.boolean))
abbrev ws_Vw_isSameName : List Cond := c_Vw_isSameName :: xg_1
theorem d_Vw_isSameName_0 : decode prog_12_method_11_code 0 = .ok (.aload_n 0, 1) := by decide +kernel
theorem d_Vw_isSameName_1 : decode prog_12_method_11_code 1 = .ok (.getfield 34, 3) := by decide +kernel
theorem d_Vw_isSameName_4 : decode prog_12_method_11_code 4 = .ok (.iload_n 1, 1) := by decide +kernel
theorem d_Vw_isSameName_5 : decode prog_12_method_11_code 5 = .ok (.invokevirtual 127, 3) := by decide +kernel
theorem d_Vw_isSameName_8 : decode prog_12_method_11_code 8 = .ok (.istore_n 3, 1) := by decide +kernel
theorem d_Vw_isSameName_9 : decode prog_12_method_11_code 9 = .ok (.aload_n 0, 1) := by decide +kernel
theorem d_Vw_isSameName_10 : decode prog_12_method_11_code 10 = .ok (.getfield 34, 3) := by decide +kernel
theorem d_Vw_isSameName_13 : decode prog_12_method_11_code 13 = .ok (.iload_n 2, 1) := by decide +kernel
theorem d_Vw_isSameName_14 : decode prog_12_method_11_code 14 = .ok (.invokevirtual 127, 3) := by decide +kernel
theorem d_Vw_isSameName_17 : decode prog_12_method_11_code 17 = .ok (.istore 4, 2) := by decide +kernel
theorem d_Vw_isSameName_19 : decode prog_12_method_11_code 19 = .ok (.iconst 0, 1) := by decide +kernel
theorem d_Vw_isSameName_20 : decode prog_12_method_11_code 20 = .ok (.istore 5, 2) := by decide +kernel
theorem d_Vw_isSameName_22 : decode prog_12_method_11_code 22 = .ok (.iload 5, 2) := by decide +kernel
theorem d_Vw_isSameName_24 : decode prog_12_method_11_code 24 = .ok (.aload_n 0, 1) := by decide +kernel
theorem d_Vw_isSameName_25 : decode prog_12_method_11_code 25 = .ok (.getfield 34, 3) := by decide +kernel
theorem d_Vw_isSameName_28 : decode prog_12_method_11_code 28 = .ok (.getfield 103, 3) := by decide +kernel
theorem d_Vw_isSameName_31 : decode prog_12_method_11_code 31 = .ok (.iload_n 3, 1) := by decide +kernel
theorem d_Vw_isSameName_32 : decode prog_12_method_11_code 32 = .ok (.baload, 1) := by decide +kernel
theorem d_Vw_isSameName_33 : decode prog_12_method_11_code 33 = .ok (.if_icmp .gt 39, 3) := by decide +kernel
theorem d_Vw_isSameName_36 : decode prog_12_method_11_code 36 = .ok (.aload_n 0, 1) := by decide +kernel
theorem d_Vw_isSameName_37 : decode prog_12_method_11_code 37 = .ok (.getfield 34, 3) := by decide +kernel
theorem d_Vw_isSameName_40 : decode prog_12_method_11_code 40 = .ok (.getfield 103, 3) := by decide +kernel
theorem d_Vw_isSameName_43 : decode prog_12_method_11_code 43 = .ok (.iload_n 3, 1) := by decide +kernel
theorem d_Vw_isSameName_44 : decode prog_12_method_11_code 44 = .ok (.iload 5, 2) := by decide +kernel
theorem d_Vw_isSameName_46 : decode prog_12_method_11_code 46 = .ok (.iadd, 1) := by decide +kernel
theorem d_Vw_isSameName_47 : decode prog_12_method_11_code 47 = .ok (.baload, 1) := by decide +kernel
theorem d_Vw_isSameName_48 : decode prog_12_method_11_code 48 = .ok (.aload_n 0, 1) := by decide +kernel
theorem d_Vw_isSameName_49 : decode prog_12_method_11_code 49 = .ok (.getfield 34, 3) := by decide +kernel
theorem d_Vw_isSameName_52 : decode prog_12_method_11_code 52 = .ok (.getfield 103, 3) := by decide +kernel
theorem d_Vw_isSameName_55 : decode prog_12_method_11_code 55 = .ok (.iload 4, 2) := by decide +kernel
theorem d_Vw_isSameName_57 : decode prog_12_method_11_code 57 = .ok (.iload 5, 2) := by decide +kernel
theorem d_Vw_isSameName_59 : decode prog_12_method_11_code 59 = .ok (.iadd, 1) := by decide +kernel
theorem d_Vw_isSameName_60 : decode prog_12_method_11_code 60 = .ok (.baload, 1) := by decide +kernel
theorem d_Vw_isSameName_61 : decode prog_12_method_11_code 61 = .ok (.if_icmp .eq 5, 3) := by decide +kernel
theorem d_Vw_isSameName_64 : decode prog_12_method_11_code 64 = .ok (.iconst 0, 1) := by decide +kernel
theorem d_Vw_isSameName_65 : decode prog_12_method_11_code 65 = .ok (.ireturn, 1) := by decide +kernel
theorem d_Vw_isSameName_66 : decode prog_12_method_11_code 66 = .ok (.iinc 5 1, 3) := by decide +kernel
theorem d_Vw_isSameName_69 : decode prog_12_method_11_code 69 = .ok (.goto (-47), 3) := by decide +kernel
theorem d_Vw_isSameName_72 : decode prog_12_method_11_code 72 = .ok (.iconst 1, 1) := by decide +kernel
theorem d_Vw_isSameName_73 : decode prog_12_method_11_code 73 = .ok (.ireturn, 1) := by decide +kernel
def y_Vw_bucketOf : MethodName := ⟨"PatchStore$View", "bucketOf", "(I)I"⟩
abbrev c_Vw_bucketOf : Cond := (Jvm.Cond.code ({ cls := "PatchStore$View", name := "bucketOf", desc := "(I)I" } : Jvm.MethodName) prog_12_method_10_code (5 : Nat) (Option.some Jvm.ClassFile.FieldType.int))
abbrev ws_Vw_bucketOf : List Cond := c_Vw_bucketOf :: xg_1
theorem d_Vw_bucketOf_0 : decode prog_12_method_10_code 0 = .ok (.aload_n 0, 1) := by decide +kernel
theorem d_Vw_bucketOf_1 : decode prog_12_method_10_code 1 = .ok (.getfield 34, 3) := by decide +kernel
theorem d_Vw_bucketOf_4 : decode prog_12_method_10_code 4 = .ok (.iload_n 1, 1) := by decide +kernel
theorem d_Vw_bucketOf_5 : decode prog_12_method_10_code 5 = .ok (.invokevirtual 127, 3) := by decide +kernel
theorem d_Vw_bucketOf_8 : decode prog_12_method_10_code 8 = .ok (.istore_n 2, 1) := by decide +kernel
theorem d_Vw_bucketOf_9 : decode prog_12_method_10_code 9 = .ok (.iconst 0, 1) := by decide +kernel
theorem d_Vw_bucketOf_10 : decode prog_12_method_10_code 10 = .ok (.istore_n 3, 1) := by decide +kernel
theorem d_Vw_bucketOf_11 : decode prog_12_method_10_code 11 = .ok (.iconst 1, 1) := by decide +kernel
theorem d_Vw_bucketOf_12 : decode prog_12_method_10_code 12 = .ok (.istore 4, 2) := by decide +kernel
theorem d_Vw_bucketOf_14 : decode prog_12_method_10_code 14 = .ok (.iload 4, 2) := by decide +kernel
theorem d_Vw_bucketOf_16 : decode prog_12_method_10_code 16 = .ok (.aload_n 0, 1) := by decide +kernel
theorem d_Vw_bucketOf_17 : decode prog_12_method_10_code 17 = .ok (.getfield 34, 3) := by decide +kernel
theorem d_Vw_bucketOf_20 : decode prog_12_method_10_code 20 = .ok (.getfield 103, 3) := by decide +kernel
theorem d_Vw_bucketOf_23 : decode prog_12_method_10_code 23 = .ok (.iload_n 2, 1) := by decide +kernel
theorem d_Vw_bucketOf_24 : decode prog_12_method_10_code 24 = .ok (.baload, 1) := by decide +kernel
theorem d_Vw_bucketOf_25 : decode prog_12_method_10_code 25 = .ok (.if_icmp .gt 27, 3) := by decide +kernel
theorem d_Vw_bucketOf_28 : decode prog_12_method_10_code 28 = .ok (.iload_n 3, 1) := by decide +kernel
theorem d_Vw_bucketOf_29 : decode prog_12_method_10_code 29 = .ok (.bipush 31, 2) := by decide +kernel
theorem d_Vw_bucketOf_31 : decode prog_12_method_10_code 31 = .ok (.imul, 1) := by decide +kernel
theorem d_Vw_bucketOf_32 : decode prog_12_method_10_code 32 = .ok (.aload_n 0, 1) := by decide +kernel
theorem d_Vw_bucketOf_33 : decode prog_12_method_10_code 33 = .ok (.getfield 34, 3) := by decide +kernel
theorem d_Vw_bucketOf_36 : decode prog_12_method_10_code 36 = .ok (.getfield 103, 3) := by decide +kernel
theorem d_Vw_bucketOf_39 : decode prog_12_method_10_code 39 = .ok (.iload_n 2, 1) := by decide +kernel
theorem d_Vw_bucketOf_40 : decode prog_12_method_10_code 40 = .ok (.iload 4, 2) := by decide +kernel
theorem d_Vw_bucketOf_42 : decode prog_12_method_10_code 42 = .ok (.iadd, 1) := by decide +kernel
theorem d_Vw_bucketOf_43 : decode prog_12_method_10_code 43 = .ok (.baload, 1) := by decide +kernel
theorem d_Vw_bucketOf_44 : decode prog_12_method_10_code 44 = .ok (.iadd, 1) := by decide +kernel
theorem d_Vw_bucketOf_45 : decode prog_12_method_10_code 45 = .ok (.istore_n 3, 1) := by decide +kernel
theorem d_Vw_bucketOf_46 : decode prog_12_method_10_code 46 = .ok (.iinc 4 1, 3) := by decide +kernel
theorem d_Vw_bucketOf_49 : decode prog_12_method_10_code 49 = .ok (.goto (-35), 3) := by decide +kernel
theorem d_Vw_bucketOf_52 : decode prog_12_method_10_code 52 = .ok (.iload_n 3, 1) := by decide +kernel
theorem d_Vw_bucketOf_53 : decode prog_12_method_10_code 53 = .ok (.sipush 255, 3) := by decide +kernel
theorem d_Vw_bucketOf_56 : decode prog_12_method_10_code 56 = .ok (.iand, 1) := by decide +kernel
theorem d_Vw_bucketOf_57 : decode prog_12_method_10_code 57 = .ok (.ireturn, 1) := by decide +kernel
def y_Vw_meet : MethodName := ⟨"PatchStore$View", "meet", "(I)V"⟩
abbrev c_Vw_meet : Cond := (Jvm.Cond.code ({ cls := "PatchStore$View", name := "meet", desc := "(I)V" } : Jvm.MethodName) prog_12_method_9_code (6 : Nat) (Option.none : Option Jvm.ClassFile.FieldType))
abbrev ws_Vw_meet : List Cond := c_Vw_meet :: xg_1
theorem d_Vw_meet_0 : decode prog_12_method_9_code 0 = .ok (.aload_n 0, 1) := by decide +kernel
theorem d_Vw_meet_1 : decode prog_12_method_9_code 1 = .ok (.aload_n 0, 1) := by decide +kernel
theorem d_Vw_meet_2 : decode prog_12_method_9_code 2 = .ok (.getfield 18, 3) := by decide +kernel
theorem d_Vw_meet_5 : decode prog_12_method_9_code 5 = .ok (.iload_n 1, 1) := by decide +kernel
theorem d_Vw_meet_6 : decode prog_12_method_9_code 6 = .ok (.iaload, 1) := by decide +kernel
theorem d_Vw_meet_7 : decode prog_12_method_9_code 7 = .ok (.invokevirtual 120, 3) := by decide +kernel
theorem d_Vw_meet_10 : decode prog_12_method_9_code 10 = .ok (.istore_n 2, 1) := by decide +kernel
theorem d_Vw_meet_11 : decode prog_12_method_9_code 11 = .ok (.aload_n 0, 1) := by decide +kernel
theorem d_Vw_meet_12 : decode prog_12_method_9_code 12 = .ok (.getfield 25, 3) := by decide +kernel
theorem d_Vw_meet_15 : decode prog_12_method_9_code 15 = .ok (.iload_n 2, 1) := by decide +kernel
theorem d_Vw_meet_16 : decode prog_12_method_9_code 16 = .ok (.iaload, 1) := by decide +kernel
theorem d_Vw_meet_17 : decode prog_12_method_9_code 17 = .ok (.istore_n 3, 1) := by decide +kernel
theorem d_Vw_meet_18 : decode prog_12_method_9_code 18 = .ok (.iconst 0, 1) := by decide +kernel
theorem d_Vw_meet_19 : decode prog_12_method_9_code 19 = .ok (.istore 4, 2) := by decide +kernel
theorem d_Vw_meet_21 : decode prog_12_method_9_code 21 = .ok (.iload 4, 2) := by decide +kernel
theorem d_Vw_meet_23 : decode prog_12_method_9_code 23 = .ok (.iload_n 1, 1) := by decide +kernel
theorem d_Vw_meet_24 : decode prog_12_method_9_code 24 = .ok (.if_icmp .ge 40, 3) := by decide +kernel
theorem d_Vw_meet_27 : decode prog_12_method_9_code 27 = .ok (.iload_n 3, 1) := by decide +kernel
theorem d_Vw_meet_28 : decode prog_12_method_9_code 28 = .ok (.iconst (-1), 1) := by decide +kernel
theorem d_Vw_meet_29 : decode prog_12_method_9_code 29 = .ok (.if_icmp .eq 35, 3) := by decide +kernel
theorem d_Vw_meet_32 : decode prog_12_method_9_code 32 = .ok (.aload_n 0, 1) := by decide +kernel
theorem d_Vw_meet_33 : decode prog_12_method_9_code 33 = .ok (.aload_n 0, 1) := by decide +kernel
theorem d_Vw_meet_34 : decode prog_12_method_9_code 34 = .ok (.getfield 18, 3) := by decide +kernel
theorem d_Vw_meet_37 : decode prog_12_method_9_code 37 = .ok (.iload_n 3, 1) := by decide +kernel
theorem d_Vw_meet_38 : decode prog_12_method_9_code 38 = .ok (.iaload, 1) := by decide +kernel
theorem d_Vw_meet_39 : decode prog_12_method_9_code 39 = .ok (.aload_n 0, 1) := by decide +kernel
theorem d_Vw_meet_40 : decode prog_12_method_9_code 40 = .ok (.getfield 18, 3) := by decide +kernel
theorem d_Vw_meet_43 : decode prog_12_method_9_code 43 = .ok (.iload_n 1, 1) := by decide +kernel
theorem d_Vw_meet_44 : decode prog_12_method_9_code 44 = .ok (.iaload, 1) := by decide +kernel
theorem d_Vw_meet_45 : decode prog_12_method_9_code 45 = .ok (.invokevirtual 123, 3) := by decide +kernel
theorem d_Vw_meet_48 : decode prog_12_method_9_code 48 = .ok (.ifCond .ne 16, 3) := by decide +kernel
theorem d_Vw_meet_51 : decode prog_12_method_9_code 51 = .ok (.aload_n 0, 1) := by decide +kernel
theorem d_Vw_meet_52 : decode prog_12_method_9_code 52 = .ok (.getfield 28, 3) := by decide +kernel
theorem d_Vw_meet_55 : decode prog_12_method_9_code 55 = .ok (.iload_n 3, 1) := by decide +kernel
theorem d_Vw_meet_56 : decode prog_12_method_9_code 56 = .ok (.iaload, 1) := by decide +kernel
theorem d_Vw_meet_57 : decode prog_12_method_9_code 57 = .ok (.istore_n 3, 1) := by decide +kernel
theorem d_Vw_meet_58 : decode prog_12_method_9_code 58 = .ok (.iinc 4 1, 3) := by decide +kernel
theorem d_Vw_meet_61 : decode prog_12_method_9_code 61 = .ok (.goto (-40), 3) := by decide +kernel
theorem d_Vw_meet_64 : decode prog_12_method_9_code 64 = .ok (.iload_n 3, 1) := by decide +kernel
theorem d_Vw_meet_65 : decode prog_12_method_9_code 65 = .ok (.iconst (-1), 1) := by decide +kernel
theorem d_Vw_meet_66 : decode prog_12_method_9_code 66 = .ok (.if_icmp .ne 23, 3) := by decide +kernel
theorem d_Vw_meet_69 : decode prog_12_method_9_code 69 = .ok (.aload_n 0, 1) := by decide +kernel
theorem d_Vw_meet_70 : decode prog_12_method_9_code 70 = .ok (.getfield 28, 3) := by decide +kernel
theorem d_Vw_meet_73 : decode prog_12_method_9_code 73 = .ok (.iload_n 1, 1) := by decide +kernel
theorem d_Vw_meet_74 : decode prog_12_method_9_code 74 = .ok (.aload_n 0, 1) := by decide +kernel
theorem d_Vw_meet_75 : decode prog_12_method_9_code 75 = .ok (.getfield 25, 3) := by decide +kernel
theorem d_Vw_meet_78 : decode prog_12_method_9_code 78 = .ok (.iload_n 2, 1) := by decide +kernel
theorem d_Vw_meet_79 : decode prog_12_method_9_code 79 = .ok (.iaload, 1) := by decide +kernel
theorem d_Vw_meet_80 : decode prog_12_method_9_code 80 = .ok (.iastore, 1) := by decide +kernel
theorem d_Vw_meet_81 : decode prog_12_method_9_code 81 = .ok (.aload_n 0, 1) := by decide +kernel
theorem d_Vw_meet_82 : decode prog_12_method_9_code 82 = .ok (.getfield 25, 3) := by decide +kernel
theorem d_Vw_meet_85 : decode prog_12_method_9_code 85 = .ok (.iload_n 2, 1) := by decide +kernel
theorem d_Vw_meet_86 : decode prog_12_method_9_code 86 = .ok (.iload_n 1, 1) := by decide +kernel
theorem d_Vw_meet_87 : decode prog_12_method_9_code 87 = .ok (.iastore, 1) := by decide +kernel
theorem d_Vw_meet_88 : decode prog_12_method_9_code 88 = .ok (.return_, 1) := by decide +kernel
theorem d_Vw_meet_89 : decode prog_12_method_9_code 89 = .ok (.aload_n 0, 1) := by decide +kernel
theorem d_Vw_meet_90 : decode prog_12_method_9_code 90 = .ok (.getfield 44, 3) := by decide +kernel
theorem d_Vw_meet_93 : decode prog_12_method_9_code 93 = .ok (.getfield 111, 3) := by decide +kernel
theorem d_Vw_meet_96 : decode prog_12_method_9_code 96 = .ok (.aload_n 0, 1) := by decide +kernel
theorem d_Vw_meet_97 : decode prog_12_method_9_code 97 = .ok (.getfield 18, 3) := by decide +kernel
theorem d_Vw_meet_100 : decode prog_12_method_9_code 100 = .ok (.iload_n 1, 1) := by decide +kernel
theorem d_Vw_meet_101 : decode prog_12_method_9_code 101 = .ok (.iaload, 1) := by decide +kernel
theorem d_Vw_meet_102 : decode prog_12_method_9_code 102 = .ok (.iaload, 1) := by decide +kernel
theorem d_Vw_meet_103 : decode prog_12_method_9_code 103 = .ok (.istore 4, 2) := by decide +kernel
theorem d_Vw_meet_105 : decode prog_12_method_9_code 105 = .ok (.aload_n 0, 1) := by decide +kernel
theorem d_Vw_meet_106 : decode prog_12_method_9_code 106 = .ok (.getfield 44, 3) := by decide +kernel
theorem d_Vw_meet_109 : decode prog_12_method_9_code 109 = .ok (.getfield 111, 3) := by decide +kernel
theorem d_Vw_meet_112 : decode prog_12_method_9_code 112 = .ok (.aload_n 0, 1) := by decide +kernel
theorem d_Vw_meet_113 : decode prog_12_method_9_code 113 = .ok (.getfield 18, 3) := by decide +kernel
theorem d_Vw_meet_116 : decode prog_12_method_9_code 116 = .ok (.iload_n 3, 1) := by decide +kernel
theorem d_Vw_meet_117 : decode prog_12_method_9_code 117 = .ok (.iaload, 1) := by decide +kernel
theorem d_Vw_meet_118 : decode prog_12_method_9_code 118 = .ok (.iaload, 1) := by decide +kernel
theorem d_Vw_meet_119 : decode prog_12_method_9_code 119 = .ok (.istore 5, 2) := by decide +kernel
theorem d_Vw_meet_121 : decode prog_12_method_9_code 121 = .ok (.iload 4, 2) := by decide +kernel
theorem d_Vw_meet_123 : decode prog_12_method_9_code 123 = .ok (.iload 5, 2) := by decide +kernel
theorem d_Vw_meet_125 : decode prog_12_method_9_code 125 = .ok (.if_icmp .eq 19, 3) := by decide +kernel
theorem d_Vw_meet_128 : decode prog_12_method_9_code 128 = .ok (.aload_n 0, 1) := by decide +kernel
theorem d_Vw_meet_129 : decode prog_12_method_9_code 129 = .ok (.getfield 31, 3) := by decide +kernel
theorem d_Vw_meet_132 : decode prog_12_method_9_code 132 = .ok (.iload 4, 2) := by decide +kernel
theorem d_Vw_meet_134 : decode prog_12_method_9_code 134 = .ok (.iconst 1, 1) := by decide +kernel
theorem d_Vw_meet_135 : decode prog_12_method_9_code 135 = .ok (.iastore, 1) := by decide +kernel
theorem d_Vw_meet_136 : decode prog_12_method_9_code 136 = .ok (.aload_n 0, 1) := by decide +kernel
theorem d_Vw_meet_137 : decode prog_12_method_9_code 137 = .ok (.getfield 31, 3) := by decide +kernel
theorem d_Vw_meet_140 : decode prog_12_method_9_code 140 = .ok (.iload 5, 2) := by decide +kernel
theorem d_Vw_meet_142 : decode prog_12_method_9_code 142 = .ok (.iconst 1, 1) := by decide +kernel
theorem d_Vw_meet_143 : decode prog_12_method_9_code 143 = .ok (.iastore, 1) := by decide +kernel
theorem d_Vw_meet_144 : decode prog_12_method_9_code 144 = .ok (.return_, 1) := by decide +kernel
/-- the name at na, of n bytes with its length in front, stands at nb too -/
def nmE (f : Nat → Int32) (na nb n : Nat) : Prop := ∀ i, i ≤ n → f (na + i) = f (nb + i)
/-- the sum over a name -/
def hsN (f : Nat → Int32) (na : Nat) : Nat → Int32
  | 0 => 0
  | i + 1 => hsN f na i * 31 + f (na + (i + 1))
theorem hsN_eq {f : Nat → Int32} {na nb : Nat} : ∀ n, (∀ i, i ≤ n → f (na + i) = f (nb + i)) → hsN f na n = hsN f nb n
  | 0, _ => rfl
  | n + 1, h => by
    show hsN f na n * 31 + f (na + (n + 1)) = hsN f nb n * 31 + f (nb + (n + 1))
    rw [hsN_eq n (fun i z => h i (by omega)), h (n + 1) (by omega)]
/-- the first of a chain -/
def lk : List Nat → Int32
  | [] => -1
  | k :: _ => nI k
/-- the rows hold the chain -/
def chOK (nx : Nat → Int32) : List Nat → Prop
  | [] => True
  | k :: t => nx k = lk t ∧ chOK nx t
theorem chOK.up {nx : Nat → Int32} {i : Nat} {v : Int32} : ∀ {T : List Nat}, (∀ k, k ∈ T → k < i) → chOK nx T → chOK (upd nx i v) T
  | [], _, _ => trivial
  | k :: t, h, ⟨h1, h2⟩ => ⟨by rw [upd_ne _ (by have := h k (List.mem_cons_self ..); omega)]; exact h1, chOK.up (fun q z => h q (List.mem_cons_of_mem _ z)) h2⟩
theorem lk_cons {T : List Nat} (h : ¬ lk T = -1) : ∃ k t, T = k :: t := by
  match T, h with
  | [], h => exact absurd rfl h
  | k :: t, _ => exact ⟨k, t, rfl⟩
theorem lk_nil {T : List Nat} (hb : ∀ k, k ∈ T → k < 20000) (h : lk T = -1) : T = [] := by
  match T, hb, h with
  | [], _, _ => rfl
  | k :: t, hb, h =>
    have h : nI k = -1 := h
    have := hb k (List.mem_cons_self ..)
    have e := congrArg Int32.toInt h
    rw [nI_toInt (by omega)] at e
    have e1 : (-1 : Int32).toInt = -1 := by decide
    omega
/-- same names -/
def smN (S : Stk) (L : List Nat) (p q : Nat) : Prop := nmE S.f (nmAt S.f (S.CA (L.getD p 0))) (nmAt S.f (S.CA (L.getD q 0))) (b8 (S.f (nmAt S.f (S.CA (L.getD p 0)))))
/-- the bucket of a naming -/
def bkN (S : Stk) (L : List Nat) (p : Nat) : Nat := b8 (hsN S.f (nmAt S.f (S.CA (L.getD p 0))) (b8 (S.f (nmAt S.f (S.CA (L.getD p 0))))))
theorem smN.len {S : Stk} {L : List Nat} {p q : Nat} (h : smN S L p q) : S.f (nmAt S.f (S.CA (L.getD p 0))) = S.f (nmAt S.f (S.CA (L.getD q 0))) := h 0 (Nat.zero_le _)
theorem smN.symm {S : Stk} {L : List Nat} {p q : Nat} (h : smN S L p q) : smN S L q p := by
  intro i hi
  rw [← h.len] at hi
  exact (h i hi).symm
theorem smN.trans {S : Stk} {L : List Nat} {p q r : Nat} (h : smN S L p q) (h2 : smN S L q r) : smN S L p r := by
  intro i hi
  rw [h i hi]
  rw [h.len] at hi
  exact h2 i hi
theorem smN.bk {S : Stk} {L : List Nat} {p q : Nat} (h : smN S L p q) : bkN S L p = bkN S L q := by
  unfold bkN
  rw [← h.len, hsN_eq _ h]
/-- a naming of file y among the first n has a name that one of another file has too -/
def shR (S : Stk) (L : List Nat) (n y : Nat) : Prop := ∃ p q, p < n ∧ q < n ∧ smN S L p q ∧ S.CF (L.getD p 0) = y ∧ ¬ S.CF (L.getD q 0) = y
theorem shR_none {S : Stk} {L : List Nat} {n y : Nat} (h : ∀ k, k < n → ¬ smN S L k n) : shR S L (n + 1) y ↔ shR S L n y := by
  constructor
  · rintro ⟨p, q, h1, h2, h3, h4, h5⟩
    by_cases e1 : p = n
    · by_cases e2 : q = n
      · rw [e2] at h5; rw [e1] at h4; exact absurd h4 h5
      · rw [e1] at h3; exact absurd h3.symm (h q (by omega))
    · by_cases e2 : q = n
      · rw [e2] at h3; exact absurd h3 (h p (by omega))
      · exact ⟨p, q, by omega, by omega, h3, h4, h5⟩
  · rintro ⟨p, q, h1, h2, h3⟩
    exact ⟨p, q, by omega, by omega, h3⟩
theorem shR_some {S : Stk} {L : List Nat} {n o y : Nat} (ho : o < n) (hs : smN S L o n) : shR S L (n + 1) y ↔ (shR S L n y ∨ (¬ S.CF (L.getD n 0) = S.CF (L.getD o 0) ∧ (y = S.CF (L.getD n 0) ∨ y = S.CF (L.getD o 0)))) := by
  constructor
  · rintro ⟨p, q, h1, h2, h3, h4, h5⟩
    by_cases e1 : p = n
    · by_cases e2 : q = n
      · rw [e2] at h5; rw [e1] at h4; exact absurd h4 h5
      · rw [e1] at h3 h4
        by_cases e3 : S.CF (L.getD o 0) = y
        · exact Or.inl ⟨o, q, ho, by omega, hs.trans h3, e3, h5⟩
        · exact Or.inr ⟨fun z => e3 (z.symm.trans h4), Or.inl h4.symm⟩
    · by_cases e2 : q = n
      · rw [e2] at h3 h5
        by_cases e3 : S.CF (L.getD o 0) = y
        · exact Or.inr ⟨fun z => h5 (z.trans e3), Or.inr e3.symm⟩
        · exact Or.inl ⟨p, o, by omega, ho, h3.trans hs.symm, h4, e3⟩
      · exact Or.inl ⟨p, q, by omega, by omega, h3, h4, h5⟩
  · rintro (⟨p, q, h1, h2, h3⟩ | ⟨h1, h2⟩)
    · exact ⟨p, q, by omega, by omega, h3⟩
    · rcases h2 with h2 | h2
      · exact ⟨n, o, by omega, by omega, hs.symm, h2.symm, fun z => h1 (h2.symm.trans z.symm)⟩
      · exact ⟨o, n, by omega, by omega, hs, h2.symm, fun z => h1 (z.trans h2)⟩
/-- the chains and marks behind n namings -/
def chS (S : Stk) (L : List Nat) (hd nx sh : Nat → Int32) (n : Nat) (K : Nat → List Nat) : Prop :=
  (∀ b, b < 256 → hd b = lk (K b) ∧ chOK nx (K b) ∧ (K b).length ≤ n ∧ ∀ k, k ∈ K b → k < n) ∧
  (∀ q, q < n → ∃ k, k ∈ K (bkN S L q) ∧ smN S L k q) ∧
  (∀ y, y < 200 → (sh y = 1 ∧ shR S L n y) ∨ (sh y = 0 ∧ ¬ shR S L n y))
def kUp (K : Nat → List Nat) (b0 n : Nat) : Nat → List Nat := fun b => if b = b0 then n :: K b else K b
theorem kUp_eq (K : Nat → List Nat) (b0 n : Nat) : kUp K b0 n b0 = n :: K b0 := if_pos rfl
theorem kUp_ne (K : Nat → List Nat) {b0 n b : Nat} (h : ¬ b = b0) : kUp K b0 n b = K b := if_neg h
theorem chS.none {S : Stk} {L : List Nat} {hd nx sh : Nat → Int32} {n : Nat} {K : Nat → List Nat} (h : chS S L hd nx sh n K) (hn : ∀ k, k ∈ K (bkN S L n) → ¬ smN S L k n) (hb : bkN S L n < 256) : chS S L (upd hd (bkN S L n) (nI n)) (upd nx n (hd (bkN S L n))) sh (n + 1) (kUp K (bkN S L n) n) := by
  obtain ⟨h1, h2, h3⟩ := h
  refine ⟨fun b hb2 => ?_, fun q hq => ?_, fun y hy => ?_⟩
  · obtain ⟨a1, a2, a3, a4⟩ := h1 b hb2
    by_cases e : b = bkN S L n
    · rw [e, upd_eq, kUp_eq]
      rw [e] at a1 a2 a3 a4
      refine ⟨rfl, ⟨by rw [upd_eq]; exact a1, chOK.up a4 a2⟩, by simp only [List.length_cons]; omega, fun k hk => ?_⟩
      rcases List.mem_cons.mp hk with z | z
      · omega
      · have := a4 k z; omega
    · rw [upd_ne _ e, kUp_ne _ e]
      exact ⟨a1, chOK.up a4 a2, by omega, fun k hk => by have := a4 k hk; omega⟩
  · by_cases e : q = n
    · subst e
      exact ⟨q, by rw [kUp_eq]; exact List.mem_cons_self .., fun _ _ => rfl⟩
    · obtain ⟨k, z1, z2⟩ := h2 q (by omega)
      refine ⟨k, ?_, z2⟩
      by_cases e2 : bkN S L q = bkN S L n
      · rw [e2, kUp_eq]; rw [e2] at z1; exact List.mem_cons_of_mem _ z1
      · rw [kUp_ne _ e2]; exact z1
  · have e : ∀ k, k < n → ¬ smN S L k n := fun k hk z => by
      obtain ⟨r, z1, z2⟩ := h2 k hk
      rw [z.bk] at z1
      exact hn r z1 (z2.trans z)
    rw [shR_none e]
    exact h3 y hy
theorem chS.some {S : Stk} {L : List Nat} {hd nx sh sh1 : Nat → Int32} {n o : Nat} {K : Nat → List Nat} (h : chS S L hd nx sh n K) (ho : o ∈ K (bkN S L n)) (hb : bkN S L n < 256) (hs : smN S L o n) (h9 : (S.CF (L.getD n 0) = S.CF (L.getD o 0) ∧ sh1 = sh) ∨ (¬ S.CF (L.getD n 0) = S.CF (L.getD o 0) ∧ sh1 = upd (upd sh (S.CF (L.getD n 0)) 1) (S.CF (L.getD o 0)) 1)) : chS S L hd nx sh1 (n + 1) K := by
  obtain ⟨h1, h2, h3⟩ := h
  have hol := (h1 _ hb).2.2.2 o ho
  refine ⟨fun b hb2 => ?_, fun q hq => ?_, fun y hy => ?_⟩
  · obtain ⟨a1, a2, a3, a4⟩ := h1 b hb2
    exact ⟨a1, a2, by omega, fun k hk => by have := a4 k hk; omega⟩
  · by_cases e : q = n
    · subst e; exact ⟨o, ho, hs⟩
    · exact h2 q (by omega)
  · rw [shR_some hol hs]
    rcases h9 with ⟨e, rfl⟩ | ⟨e, rfl⟩
    · rcases h3 y hy with ⟨z1, z2⟩ | ⟨z1, z2⟩
      · exact Or.inl ⟨z1, Or.inl z2⟩
      · exact Or.inr ⟨z1, fun w => w.elim z2 (fun w => w.1 e)⟩
    · by_cases e1 : y = S.CF (L.getD o 0)
      · rw [e1, upd_eq]
        exact Or.inl ⟨rfl, Or.inr ⟨e, Or.inr rfl⟩⟩
      · rw [upd_ne _ e1]
        by_cases e2 : y = S.CF (L.getD n 0)
        · rw [e2, upd_eq]
          exact Or.inl ⟨rfl, Or.inr ⟨e, Or.inl rfl⟩⟩
        · rw [upd_ne _ e2]
          rcases h3 y hy with ⟨z1, z2⟩ | ⟨z1, z2⟩
          · exact Or.inl ⟨z1, Or.inl z2⟩
          · exact Or.inr ⟨z1, fun w => w.elim z2 (fun w => w.2.elim e2 e1)⟩
theorem chS.zero {S : Stk} {L : List Nat} {hd nx sh : Nat → Int32} (h1 : ∀ b, b < 256 → hd b = -1) (h2 : ∀ y, y < 200 → sh y = 0) : chS S L hd nx sh 0 (fun _ => []) := ⟨fun b hb => ⟨h1 b hb, trivial, Nat.le_refl _, fun k hk => by cases hk⟩, fun q hq => absurd hq (Nat.not_lt_zero _), fun y hy => Or.inr ⟨h2 y hy, fun ⟨p, q, z, _⟩ => absurd z (Nat.not_lt_zero _)⟩⟩
/-- the file shares a name -/
noncomputable def shB (S : Stk) (L : List Nat) (y : Nat) : Bool := @decide (shR S L L.length y) (Classical.propDecidable _)
theorem shB_iff {S : Stk} {L : List Nat} {y : Nat} : shB S L y = true ↔ shR S L L.length y := by
  unfold shB
  exact @decide_eq_true_iff _ (Classical.propDecidable _)
/-- what is read of a naming stands in its patch -/
def nmIn (S : Stk) (c : Nat) : Prop := c < 38000 ∧ S.CF c < 200 ∧ S.CA c + 5 < 290000 ∧ nmAt S.f (S.CA c) + 70 < 290000 ∧ S.f (nmAt S.f (S.CA c)) = nI (b8 (S.f (nmAt S.f (S.CA c)))) ∧ b8 (S.f (nmAt S.f (S.CA c))) ≤ 64
set_option maxHeartbeats 4000000 in
set_option maxRecDepth 100000 in
/-- whether two namings have one name -/
theorem m_Vw_isSameName (l : Launch) (dC : Nat → ClassId) (dI : Nat → Nat → Nat) (cI cB cL cZ cR : ClassId) (h sk b_y ch cat : Nat) (vw_files vw_namingsOf vw_namings vw_fileTotal vw_namingTotal vw_changes vw_loaded vw_version vw_over vw_round vw_heads vw_nexts vw_sharing sk_from sk_firstDependency sk_firstChange sk_dependencies sk_hashes sk_byHash sk_leansOn sk_leantBy sk_lines sk_patches ch_patch ch_file ch_firstLine ch_adds ch_files : Value) (Z : StkA) (S : Stk) (c1 d1 : Nat) (sz : Nat) (h1n : nmIn S c1) (h2n : nmIn S d1) (h1c : Z.ca c1 = nI (S.CA c1)) (h2c : Z.ca d1 = nI (S.CA d1)) : Met l y_Vw_isSameName ws_Vw_isSameName ({ frames := 1, cells := 0, slots := 0, locals := 60 }) (xw_Pc dC dI [(cI, .int), (cB, .byte), (cL, .long), (cZ, .boolean), (cR, .object "PatchStore$Repository")] [.ref h, .int (nI c1), .int (nI d1)] [(h, .inr (11, [vw_files, vw_namingsOf, vw_namings, vw_fileTotal, vw_namingTotal, .ref sk, vw_changes, vw_loaded, vw_version, vw_over, vw_round, vw_heads, vw_nexts, vw_sharing])), (sk, .inr (9, [.ref b_y, sk_from, sk_firstDependency, sk_firstChange, sk_dependencies, sk_hashes, sk_byHash, sk_leansOn, sk_leantBy, .ref ch, sk_lines, sk_patches])), (b_y, .inl (cB, 290000, .inl S.f)), (ch, .inr (1, [.ref cat, ch_patch, ch_file, ch_firstLine, ch_adds, ch_files])), (cat, .inl (cI, 38000, .inl Z.ca))] sz) (va_Qi (fun (r : Int32) (_ : Unit) => (r = 1 ∧ nmE S.f (nmAt S.f (S.CA c1)) (nmAt S.f (S.CA d1)) (b8 (S.f (nmAt S.f (S.CA c1))))) ∨ (r = 0 ∧ ¬ nmE S.f (nmAt S.f (S.CA c1)) (nmAt S.f (S.CA d1)) (b8 (S.f (nmAt S.f (S.CA c1)))))) (fun _ t => xw_B dC dI [(cI, .int), (cB, .byte), (cL, .long), (cZ, .boolean), (cR, .object "PatchStore$Repository")] (va_A [(h, .inr (11, [vw_files, vw_namingsOf, vw_namings, vw_fileTotal, vw_namingTotal, .ref sk, vw_changes, vw_loaded, vw_version, vw_over, vw_round, vw_heads, vw_nexts, vw_sharing])), (sk, .inr (9, [.ref b_y, sk_from, sk_firstDependency, sk_firstChange, sk_dependencies, sk_hashes, sk_byHash, sk_leansOn, sk_leantBy, .ref ch, sk_lines, sk_patches])), (b_y, .inl (cB, 290000, .inl S.f)), (ch, .inr (1, [.ref cat, ch_patch, ch_file, ch_firstLine, ch_adds, ch_files])), (cat, .inl (cI, 38000, .inl Z.ca))] sz) [(h, .inr (11, [vw_files, vw_namingsOf, vw_namings, vw_fileTotal, vw_namingTotal, .ref sk, vw_changes, vw_loaded, vw_version, vw_over, vw_round, vw_heads, vw_nexts, vw_sharing])), (sk, .inr (9, [.ref b_y, sk_from, sk_firstDependency, sk_firstChange, sk_dependencies, sk_hashes, sk_byHash, sk_leansOn, sk_leantBy, .ref ch, sk_lines, sk_patches])), (b_y, .inl (cB, 290000, .inl S.f)), (ch, .inr (1, [.ref cat, ch_patch, ch_file, ch_firstLine, ch_adds, ch_files])), (cat, .inl (cI, 38000, .inl Z.ca))] t) (va_A [(h, .inr (11, [vw_files, vw_namingsOf, vw_namings, vw_fileTotal, vw_namingTotal, .ref sk, vw_changes, vw_loaded, vw_version, vw_over, vw_round, vw_heads, vw_nexts, vw_sharing])), (sk, .inr (9, [.ref b_y, sk_from, sk_firstDependency, sk_firstChange, sk_dependencies, sk_hashes, sk_byHash, sk_leansOn, sk_leantBy, .ref ch, sk_lines, sk_patches])), (b_y, .inl (cB, 290000, .inl S.f)), (ch, .inr (1, [.ref cat, ch_patch, ch_file, ch_firstLine, ch_adds, ch_files])), (cat, .inl (cI, 38000, .inl Z.ca))] sz)) 0 0 (va_A [(h, .inr (11, [vw_files, vw_namingsOf, vw_namings, vw_fileTotal, vw_namingTotal, .ref sk, vw_changes, vw_loaded, vw_version, vw_over, vw_round, vw_heads, vw_nexts, vw_sharing])), (sk, .inr (9, [.ref b_y, sk_from, sk_firstDependency, sk_firstChange, sk_dependencies, sk_hashes, sk_byHash, sk_leansOn, sk_leantBy, .ref ch, sk_lines, sk_patches])), (b_y, .inl (cB, 290000, .inl S.f)), (ch, .inr (1, [.ref cat, ch_patch, ch_file, ch_firstLine, ch_adds, ch_files])), (cat, .inl (cI, 38000, .inl Z.ca))] sz) := by
  refine Met.ofW (cc := prog_12_method_11_code) (maxL := 6) (ret := (Option.some Jvm.ClassFile.FieldType.boolean)) (by decide) rfl ?_
  intro p e s m args below meth c s₁ B hml hv
  obtain ⟨rfl, hsz, hP, hK, hD0⟩ := hv
  have hx := B.exec
  have hb := B.bytes
  have hr := B.returns
  have hts0 := atoms_spec (ws := ws_Vw_isSameName) B.pre
  have hts : ∀ w ∈ xg_1, w.before _ s = true := fun w h => hts0 w (List.mem_cons_of_mem _ h)
  have hown : s.vm.findClass "PatchStore$View" = some m.cls := findClass_of_methodNamed B.named
  have hlocks := B.notSynchronized
  subst hsz
  have hD := hD0.self (sz := s.heap.size)
  generalize hAe : va_A [(h, .inr (11, [vw_files, vw_namingsOf, vw_namings, vw_fileTotal, vw_namingTotal, .ref sk, vw_changes, vw_loaded, vw_version, vw_over, vw_round, vw_heads, vw_nexts, vw_sharing])), (sk, .inr (9, [.ref b_y, sk_from, sk_firstDependency, sk_firstChange, sk_dependencies, sk_hashes, sk_byHash, sk_leansOn, sk_leantBy, .ref ch, sk_lines, sk_patches])), (b_y, .inl (cB, 290000, .inl S.f)), (ch, .inr (1, [.ref cat, ch_patch, ch_file, ch_firstLine, ch_adds, ch_files])), (cat, .inl (cI, 38000, .inl Z.ca))] s.heap.size = A at hD ⊢
  have hA : ∀ q : Nat, s.heap.size ≤ q → A q := fun q h => by rw [← hAe]; exact Or.inr h
  have hS : va_S A s.heap s.heap [] := va_S.rf
  have hl := lv_entry ([.ref h, .int (nI c1), .int (nI d1)]) (n := 6) (Nat.le_of_ble_eq_true rfl)
  rw [lg_entry_eq]
  generalize (lg_sl ([.ref h, .int (nI c1), .int (nI d1)]) ++ List.replicate (6 - (lg_sl ([.ref h, .int (nI c1), .int (nI d1)])).length) Slot.unset).toArray = ls at hl ⊢
  have hl : lv_has ls 6 [(0, .ref h), (1, .int (nI c1)), (2, .int (nI d1))] := hl
  generalize hQe : MQ _ _ _ _ _ _ _ = Q
  have hi1 := h1n.2.2.2.1
  have hi2 := h2n.2.2.2.1
  have hi3 := h1n.2.2.2.2.2
  refine lv_aload_n hx hb d_Vw_isSameName_0 rfl (lv_at hl 0 rfl) ?_
  refine va_get (D := (dC, dI)) (ci := 11) (v := .ref sk) (C := R_Vw) (T := F_Vw) (N := 14) hx hb hts i_Vw hown hK hP 0 rfl rfl 5 (by decide) (hts _ gw_330) (fun _ h9 => h9) rfl d_Vw_isSameName_1 ?_
  refine lv_iload_n hx hb d_Vw_isSameName_4 rfl (lv_at hl 1 rfl) ?_
  have hPc := hP.sub (ws' := [(sk, .inr (9, [.ref b_y, sk_from, sk_firstDependency, sk_firstChange, sk_dependencies, sk_hashes, sk_byHash, sk_leansOn, sk_leantBy, .ref ch, sk_lines, sk_patches])), (b_y, .inl (cB, 290000, .inl S.f)), (ch, .inr (1, [.ref cat, ch_patch, ch_file, ch_firstLine, ch_adds, ch_files])), (cat, .inl (cI, 38000, .inl Z.ca))]) [1, 2, 3, 4] rfl
  have hDc := hD.sub (ws' := [(sk, .inr (9, [.ref b_y, sk_from, sk_firstDependency, sk_firstChange, sk_dependencies, sk_hashes, sk_byHash, sk_leansOn, sk_leantBy, .ref ch, sk_lines, sk_patches])), (b_y, .inl (cB, 290000, .inl S.f)), (ch, .inr (1, [.ref cat, ch_patch, ch_file, ch_firstLine, ch_adds, ch_files])), (cat, .inl (cI, 38000, .inl Z.ca))]) [1, 2, 3, 4] (by decide) rfl
  have hFc := va_free (wc := [(sk, .inr (9, [.ref b_y, sk_from, sk_firstDependency, sk_firstChange, sk_dependencies, sk_hashes, sk_byHash, sk_leansOn, sk_leantBy, .ref ch, sk_lines, sk_patches])), (b_y, .inl (cB, 290000, .inl S.f)), (ch, .inr (1, [.ref cat, ch_patch, ch_file, ch_firstLine, ch_adds, ch_files])), (cat, .inl (cI, 38000, .inl Z.ca))]) hD hS hA [1, 2, 3, 4] rfl
  refine va_calli (va_runV (As := [.int (nI c1)]) (rest := []) ⟨hx, hb, hml, hown, hts⟩ (m_St_nameAt l dC dI cI cB cL cZ cR sk b_y ch cat (sk_from) (sk_firstDependency) (sk_firstChange) (sk_dependencies) (sk_hashes) (sk_byHash) (sk_leansOn) (sk_leantBy) (sk_lines) (sk_patches) (ch_patch) (ch_file) (ch_firstLine) (ch_adds) (ch_files) S.f Z.ca c1 (S.CA c1) s.heap.size h1n.1 h1c h1n.2.2.1) (cwV 1 hts (xg_V gw_1332 gw_899 gw_900 gw_3 gw_901) rfl rfl rfl (by decide +kernel) ⟨Nat.le_of_ble_eq_true rfl, Nat.le_of_ble_eq_true rfl⟩) ⟨xw_blind, va_recv hK hPc (ci := 9) (q0 := 0) rfl rfl, fun U hU hW => ⟨rfl, by rw [hU], by rw [hU]; exact hPc, va_K.moved hW.alike hK, hDc.weaken (fun _ _ _ _ => trivial)⟩⟩ rfl rfl hl.1 rfl (lv_room (Nat.le_of_ble_eq_true rfl)) d_Vw_isSameName_5 ⟨Nat.le_of_ble_eq_true rfl, Nat.le_of_ble_eq_true rfl⟩) hS (fun q _ h => hFc q h) hFc (fun r9 u t H1 locs ht hvm hw hB hz1 hk1 hS => ?_)
  obtain ⟨hP1, hK1, hD1⟩ := hB
  rw [ht] at hP1
  obtain ⟨hP, hD⟩ := va_join (wr := [(h, .inr (11, [vw_files, vw_namingsOf, vw_namings, vw_fileTotal, vw_namingTotal, .ref sk, vw_changes, vw_loaded, vw_version, vw_over, vw_round, vw_heads, vw_nexts, vw_sharing]))]) (w1 := [(sk, .inr (9, [.ref b_y, sk_from, sk_firstDependency, sk_firstChange, sk_dependencies, sk_hashes, sk_byHash, sk_leansOn, sk_leantBy, .ref ch, sk_lines, sk_patches])), (b_y, .inl (cB, 290000, .inl S.f)), (ch, .inr (1, [.ref cat, ch_patch, ch_file, ch_firstLine, ch_adds, ch_files])), (cat, .inl (cI, 38000, .inl Z.ca))]) hP hD [1, 2, 3, 4] [0] rfl rfl (by decide) (by decide) hk1 hFc hP1 hD1
  generalize H1 = H at hP hS ⊢
  have hP : va_P (dC, dI) classes [(h, .inr (11, [vw_files, vw_namingsOf, vw_namings, vw_fileTotal, vw_namingTotal, .ref sk, vw_changes, vw_loaded, vw_version, vw_over, vw_round, vw_heads, vw_nexts, vw_sharing])), (sk, .inr (9, [.ref b_y, sk_from, sk_firstDependency, sk_firstChange, sk_dependencies, sk_hashes, sk_byHash, sk_leansOn, sk_leantBy, .ref ch, sk_lines, sk_patches])), (b_y, .inl (cB, 290000, .inl S.f)), (ch, .inr (1, [.ref cat, ch_patch, ch_file, ch_firstLine, ch_adds, ch_files])), (cat, .inl (cI, 38000, .inl Z.ca))] H := hP
  have hD : va_D A [(h, .inr (11, [vw_files, vw_namingsOf, vw_namings, vw_fileTotal, vw_namingTotal, .ref sk, vw_changes, vw_loaded, vw_version, vw_over, vw_round, vw_heads, vw_nexts, vw_sharing])), (sk, .inr (9, [.ref b_y, sk_from, sk_firstDependency, sk_firstChange, sk_dependencies, sk_hashes, sk_byHash, sk_leansOn, sk_leantBy, .ref ch, sk_lines, sk_patches])), (b_y, .inl (cB, 290000, .inl S.f)), (ch, .inr (1, [.ref cat, ch_patch, ch_file, ch_firstLine, ch_adds, ch_files])), (cat, .inl (cI, 38000, .inl Z.ca))] := hD
  subst hw
  refine lv_istore_n (lv' := [(3, .int (nI (nmAt S.f (S.CA c1)))), (0, .ref h), (1, .int (nI c1)), (2, .int (nI d1))]) hx hb d_Vw_isSameName_8 rfl hl (by decide) rfl (fun ls hl => ?_)
  refine lv_aload_n hx hb d_Vw_isSameName_9 rfl (lv_at hl 1 rfl) ?_
  refine va_get (D := (dC, dI)) (ci := 11) (v := .ref sk) (C := R_Vw) (T := F_Vw) (N := 14) hx hb hts i_Vw hown hK hP 0 rfl rfl 5 (by decide) (hts _ gw_330) (fun _ h9 => h9) rfl d_Vw_isSameName_10 ?_
  refine lv_iload_n hx hb d_Vw_isSameName_13 rfl (lv_at hl 3 rfl) ?_
  have hPc := hP.sub (ws' := [(sk, .inr (9, [.ref b_y, sk_from, sk_firstDependency, sk_firstChange, sk_dependencies, sk_hashes, sk_byHash, sk_leansOn, sk_leantBy, .ref ch, sk_lines, sk_patches])), (b_y, .inl (cB, 290000, .inl S.f)), (ch, .inr (1, [.ref cat, ch_patch, ch_file, ch_firstLine, ch_adds, ch_files])), (cat, .inl (cI, 38000, .inl Z.ca))]) [1, 2, 3, 4] rfl
  have hDc := hD.sub (ws' := [(sk, .inr (9, [.ref b_y, sk_from, sk_firstDependency, sk_firstChange, sk_dependencies, sk_hashes, sk_byHash, sk_leansOn, sk_leantBy, .ref ch, sk_lines, sk_patches])), (b_y, .inl (cB, 290000, .inl S.f)), (ch, .inr (1, [.ref cat, ch_patch, ch_file, ch_firstLine, ch_adds, ch_files])), (cat, .inl (cI, 38000, .inl Z.ca))]) [1, 2, 3, 4] (by decide) rfl
  have hFc := va_free (wc := [(sk, .inr (9, [.ref b_y, sk_from, sk_firstDependency, sk_firstChange, sk_dependencies, sk_hashes, sk_byHash, sk_leansOn, sk_leantBy, .ref ch, sk_lines, sk_patches])), (b_y, .inl (cB, 290000, .inl S.f)), (ch, .inr (1, [.ref cat, ch_patch, ch_file, ch_firstLine, ch_adds, ch_files])), (cat, .inl (cI, 38000, .inl Z.ca))]) hD hS hA [1, 2, 3, 4] rfl
  refine va_calli (va_runV (As := [.int (nI d1)]) (rest := []) ⟨hx, hb, hml, hown, hts⟩ (m_St_nameAt l dC dI cI cB cL cZ cR sk b_y ch cat (sk_from) (sk_firstDependency) (sk_firstChange) (sk_dependencies) (sk_hashes) (sk_byHash) (sk_leansOn) (sk_leantBy) (sk_lines) (sk_patches) (ch_patch) (ch_file) (ch_firstLine) (ch_adds) (ch_files) S.f Z.ca d1 (S.CA d1) H.size h2n.1 h2c h2n.2.2.1) (cwV 1 hts (xg_V gw_1332 gw_899 gw_900 gw_3 gw_901) rfl rfl rfl (by decide +kernel) ⟨Nat.le_of_ble_eq_true rfl, Nat.le_of_ble_eq_true rfl⟩) ⟨xw_blind, va_recv hK hPc (ci := 9) (q0 := 0) rfl rfl, fun U hU hW => ⟨rfl, by rw [hU], by rw [hU]; exact hPc, va_K.moved hW.alike hK, hDc.weaken (fun _ _ _ _ => trivial)⟩⟩ rfl rfl hl.1 rfl (lv_room (Nat.le_of_ble_eq_true rfl)) d_Vw_isSameName_14 ⟨Nat.le_of_ble_eq_true rfl, Nat.le_of_ble_eq_true rfl⟩) hS (fun q _ h => hFc q h) hFc (fun r9 u t H1 locs ht hvm hw hB hz1 hk1 hS => ?_)
  obtain ⟨hP1, hK1, hD1⟩ := hB
  rw [ht] at hP1
  obtain ⟨hP, hD⟩ := va_join (wr := [(h, .inr (11, [vw_files, vw_namingsOf, vw_namings, vw_fileTotal, vw_namingTotal, .ref sk, vw_changes, vw_loaded, vw_version, vw_over, vw_round, vw_heads, vw_nexts, vw_sharing]))]) (w1 := [(sk, .inr (9, [.ref b_y, sk_from, sk_firstDependency, sk_firstChange, sk_dependencies, sk_hashes, sk_byHash, sk_leansOn, sk_leantBy, .ref ch, sk_lines, sk_patches])), (b_y, .inl (cB, 290000, .inl S.f)), (ch, .inr (1, [.ref cat, ch_patch, ch_file, ch_firstLine, ch_adds, ch_files])), (cat, .inl (cI, 38000, .inl Z.ca))]) hP hD [1, 2, 3, 4] [0] rfl rfl (by decide) (by decide) hk1 hFc hP1 hD1
  generalize H1 = H at hP hS ⊢
  have hP : va_P (dC, dI) classes [(h, .inr (11, [vw_files, vw_namingsOf, vw_namings, vw_fileTotal, vw_namingTotal, .ref sk, vw_changes, vw_loaded, vw_version, vw_over, vw_round, vw_heads, vw_nexts, vw_sharing])), (sk, .inr (9, [.ref b_y, sk_from, sk_firstDependency, sk_firstChange, sk_dependencies, sk_hashes, sk_byHash, sk_leansOn, sk_leantBy, .ref ch, sk_lines, sk_patches])), (b_y, .inl (cB, 290000, .inl S.f)), (ch, .inr (1, [.ref cat, ch_patch, ch_file, ch_firstLine, ch_adds, ch_files])), (cat, .inl (cI, 38000, .inl Z.ca))] H := hP
  have hD : va_D A [(h, .inr (11, [vw_files, vw_namingsOf, vw_namings, vw_fileTotal, vw_namingTotal, .ref sk, vw_changes, vw_loaded, vw_version, vw_over, vw_round, vw_heads, vw_nexts, vw_sharing])), (sk, .inr (9, [.ref b_y, sk_from, sk_firstDependency, sk_firstChange, sk_dependencies, sk_hashes, sk_byHash, sk_leansOn, sk_leantBy, .ref ch, sk_lines, sk_patches])), (b_y, .inl (cB, 290000, .inl S.f)), (ch, .inr (1, [.ref cat, ch_patch, ch_file, ch_firstLine, ch_adds, ch_files])), (cat, .inl (cI, 38000, .inl Z.ca))] := hD
  subst hw
  refine lv_istore (lv' := [(4, .int (nI (nmAt S.f (S.CA d1)))), (3, .int (nI (nmAt S.f (S.CA c1)))), (0, .ref h), (1, .int (nI c1)), (2, .int (nI d1))]) hx hb d_Vw_isSameName_17 hl (by decide) rfl (fun ls hl => ?_)
  refine lv_iconst (v := 0) hx hb d_Vw_isSameName_19 (by decide) ?_
  refine lv_istore (lv' := [(5, .int 0), (4, .int (nI (nmAt S.f (S.CA d1)))), (3, .int (nI (nmAt S.f (S.CA c1)))), (0, .ref h), (1, .int (nI c1)), (2, .int (nI d1))]) hx hb d_Vw_isSameName_20 hl (by decide) rfl (fun ls hl => ?_)
  have loop_22 : ∀ (n9 : Nat) (i : Nat) (H : Heap) (locs : List Loc) (ls : Array Slot), (b8 (S.f (nmAt S.f (S.CA c1)))) + 1 - i < n9 → (i ≤ (b8 (S.f (nmAt S.f (S.CA c1)))) + 1) → (∀ q, q < i → S.f ((nmAt S.f (S.CA c1)) + q) = S.f ((nmAt S.f (S.CA d1)) + q)) → va_P (dC, dI) classes [(h, .inr (11, [vw_files, vw_namingsOf, vw_namings, vw_fileTotal, vw_namingTotal, .ref sk, vw_changes, vw_loaded, vw_version, vw_over, vw_round, vw_heads, vw_nexts, vw_sharing])), (sk, .inr (9, [.ref b_y, sk_from, sk_firstDependency, sk_firstChange, sk_dependencies, sk_hashes, sk_byHash, sk_leansOn, sk_leantBy, .ref ch, sk_lines, sk_patches])), (b_y, .inl (cB, 290000, .inl S.f)), (ch, .inr (1, [.ref cat, ch_patch, ch_file, ch_firstLine, ch_adds, ch_files])), (cat, .inl (cI, 38000, .inl Z.ca))] H → va_D A [(h, .inr (11, [vw_files, vw_namingsOf, vw_namings, vw_fileTotal, vw_namingTotal, .ref sk, vw_changes, vw_loaded, vw_version, vw_over, vw_round, vw_heads, vw_nexts, vw_sharing])), (sk, .inr (9, [.ref b_y, sk_from, sk_firstDependency, sk_firstChange, sk_dependencies, sk_hashes, sk_byHash, sk_leansOn, sk_leantBy, .ref ch, sk_lines, sk_patches])), (b_y, .inl (cB, 290000, .inl S.f)), (ch, .inr (1, [.ref cat, ch_patch, ch_file, ch_firstLine, ch_adds, ch_files])), (cat, .inl (cI, 38000, .inl Z.ca))] → va_S A s.heap H locs → lv_has ls 6 [(0, .ref h), (3, .int (nI (nmAt S.f (S.CA c1)))), (4, .int (nI (nmAt S.f (S.CA d1)))), (5, .int (nI i))] → W p l e (headSpec ws_Vw_isSameName ({ frames := 1, cells := 0, slots := 0, locals := 60 })).room s m ([.ref h, .int (nI c1), .int (nI d1)] : List Value).toArray below meth c H locs 0 0 Q (F0 m 22 ls []) := by
    intro n9
    induction n9 with
    | zero => intro i H locs ls hm; exact absurd hm (Nat.not_lt_zero _)
    | succ n9 ih_22 =>
      intro i H locs ls hm hi hq hP hD hS hl
      refine lv_iload hx hb d_Vw_isSameName_22 (lv_at hl 3 rfl) ?_
      refine lv_aload_n hx hb d_Vw_isSameName_24 rfl (lv_at hl 0 rfl) ?_
      refine va_get (D := (dC, dI)) (ci := 11) (v := .ref sk) (C := R_Vw) (T := F_Vw) (N := 14) hx hb hts i_Vw hown hK hP 0 rfl rfl 5 (by decide) (hts _ gw_330) (fun _ h9 => h9) rfl d_Vw_isSameName_25 ?_
      refine va_get (D := (dC, dI)) (ci := 9) (v := .ref b_y) (C := R_St) (T := F_St) (N := 12) hx hb hts i_St hown hK hP 1 rfl rfl 0 (by decide) (hts _ gw_183) (fun _ h9 => h9) rfl d_Vw_isSameName_28 ?_
      refine lv_iload_n hx hb d_Vw_isSameName_31 rfl (lv_at hl 1 rfl) ?_
      refine va_bald hx hb hK hP 2 1 rfl rfl (vp_in_nI (by omega) (by omega)) d_Vw_isSameName_32 ?_
      rw [show (nI (nmAt S.f (S.CA c1))).toNatClampNeg = (nmAt S.f (S.CA c1)) from nI_clamp (by omega)]
      refine lv_topi (fun x_1 ex_1 => ?_)
      obtain rfl : x_1 = nI (b8 (S.f (nmAt S.f (S.CA c1)))) := by rw [ex_1]; first | done | (exact h1n.2.2.2.2.1)
      refine lv_icmp_gt (tgt := 72) hx hb d_Vw_isSameName_33 (by decide) (fun c_33 => ?_) (fun c_33 => ?_)
      · have n_33 : (b8 (S.f (nmAt S.f (S.CA c1)))) < i := (nI_ltI (a := (b8 (S.f (nmAt S.f (S.CA c1))))) (b := i) (by omega) (by omega)).mp c_33
        refine lv_iconst (v := 1) hx hb d_Vw_isSameName_72 (by decide) ?_
        rw [← hQe]
        exact W.zret (v := 1) hx hb hr nz_b1 (fun t ht hW => ⟨⟨_, (), rfl, Or.inl ⟨rfl, fun q z => hq q (by omega)⟩, by rw [ht]; exact hP, va_K.moved hW.alike hK, hD⟩, hS.F ht⟩) hS.2.2 d_Vw_isSameName_73
      · have n_33 : i ≤ (b8 (S.f (nmAt S.f (S.CA c1)))) := Nat.le_of_not_lt (fun z => c_33 ((nI_ltI (a := (b8 (S.f (nmAt S.f (S.CA c1))))) (b := i) (by omega) (by omega)).mpr z))
        refine lv_aload_n hx hb d_Vw_isSameName_36 rfl (lv_at hl 0 rfl) ?_
        refine va_get (D := (dC, dI)) (ci := 11) (v := .ref sk) (C := R_Vw) (T := F_Vw) (N := 14) hx hb hts i_Vw hown hK hP 0 rfl rfl 5 (by decide) (hts _ gw_330) (fun _ h9 => h9) rfl d_Vw_isSameName_37 ?_
        refine va_get (D := (dC, dI)) (ci := 9) (v := .ref b_y) (C := R_St) (T := F_St) (N := 12) hx hb hts i_St hown hK hP 1 rfl rfl 0 (by decide) (hts _ gw_183) (fun _ h9 => h9) rfl d_Vw_isSameName_40 ?_
        refine lv_iload_n hx hb d_Vw_isSameName_43 rfl (lv_at hl 1 rfl) ?_
        refine lv_iload hx hb d_Vw_isSameName_44 (lv_at hl 3 rfl) ?_
        refine lv_iadd hx hb d_Vw_isSameName_46 ?_
        refine lv_topi (fun x_2 ex_2 => ?_)
        obtain rfl : x_2 = nI ((nmAt S.f (S.CA c1)) + i) := by rw [ex_2]; first | done | (exact nI_add _ _)
        refine va_bald hx hb hK hP 2 1 rfl rfl (vp_in_nI (by omega) (by omega)) d_Vw_isSameName_47 ?_
        rw [show (nI ((nmAt S.f (S.CA c1)) + i)).toNatClampNeg = ((nmAt S.f (S.CA c1)) + i) from nI_clamp (by omega)]
        refine lv_aload_n hx hb d_Vw_isSameName_48 rfl (lv_at hl 0 rfl) ?_
        refine va_get (D := (dC, dI)) (ci := 11) (v := .ref sk) (C := R_Vw) (T := F_Vw) (N := 14) hx hb hts i_Vw hown hK hP 0 rfl rfl 5 (by decide) (hts _ gw_330) (fun _ h9 => h9) rfl d_Vw_isSameName_49 ?_
        refine va_get (D := (dC, dI)) (ci := 9) (v := .ref b_y) (C := R_St) (T := F_St) (N := 12) hx hb hts i_St hown hK hP 1 rfl rfl 0 (by decide) (hts _ gw_183) (fun _ h9 => h9) rfl d_Vw_isSameName_52 ?_
        refine lv_iload hx hb d_Vw_isSameName_55 (lv_at hl 2 rfl) ?_
        refine lv_iload hx hb d_Vw_isSameName_57 (lv_at hl 3 rfl) ?_
        refine lv_iadd hx hb d_Vw_isSameName_59 ?_
        refine lv_topi (fun x_3 ex_3 => ?_)
        obtain rfl : x_3 = nI ((nmAt S.f (S.CA d1)) + i) := by rw [ex_3]; first | done | (exact nI_add _ _)
        refine va_bald hx hb hK hP 2 1 rfl rfl (vp_in_nI (by omega) (by omega)) d_Vw_isSameName_60 ?_
        rw [show (nI ((nmAt S.f (S.CA d1)) + i)).toNatClampNeg = ((nmAt S.f (S.CA d1)) + i) from nI_clamp (by omega)]
        refine lv_icmp_eq (tgt := 66) hx hb d_Vw_isSameName_61 (by decide) (fun c_61 => ?_) (fun c_61 => ?_)
        · refine lv_iinc (v := nI (i + 1)) (lv' := [(5, .int (nI (i + 1))), (0, .ref h), (3, .int (nI (nmAt S.f (S.CA c1)))), (4, .int (nI (nmAt S.f (S.CA d1))))]) hx hb d_Vw_isSameName_66 hl (k := 3) rfl (by exact nI_add _ _) (by decide) rfl (fun ls hl => ?_)
          refine lv_goto (tgt := 22) hx hb d_Vw_isSameName_69 (by decide) ?_
          exact ih_22 (i + 1) _ _ _ (by omega) (by omega) (fun q z => if e9 : q = i then e9 ▸ c_61 else hq q (by omega)) hP hD hS (lv_sub hl [1, 2, 3, 0] rfl)
        · refine lv_iconst (v := 0) hx hb d_Vw_isSameName_64 (by decide) ?_
          rw [← hQe]
          exact W.zret (v := 0) hx hb hr nz_b0 (fun t ht hW => ⟨⟨_, (), rfl, Or.inr ⟨rfl, fun z => c_61 (z i (by omega))⟩, by rw [ht]; exact hP, va_K.moved hW.alike hK, hD⟩, hS.F ht⟩) hS.2.2 d_Vw_isSameName_65
  exact loop_22 _ 0 _ _ _ (Nat.lt_succ_self _) (Nat.zero_le _) (fun q z => absurd z (Nat.not_lt_zero _)) hP hD hS (lv_sub hl [3, 2, 1, 0] rfl)
set_option maxHeartbeats 4000000 in
set_option maxRecDepth 100000 in
/-- the bucket of a naming -/
theorem m_Vw_bucketOf (l : Launch) (dC : Nat → ClassId) (dI : Nat → Nat → Nat) (cI cB cL cZ cR : ClassId) (h sk b_y ch cat : Nat) (vw_files vw_namingsOf vw_namings vw_fileTotal vw_namingTotal vw_changes vw_loaded vw_version vw_over vw_round vw_heads vw_nexts vw_sharing sk_from sk_firstDependency sk_firstChange sk_dependencies sk_hashes sk_byHash sk_leansOn sk_leantBy sk_lines sk_patches ch_patch ch_file ch_firstLine ch_adds ch_files : Value) (Z : StkA) (S : Stk) (c1 : Nat) (sz : Nat) (h1n : nmIn S c1) (h1c : Z.ca c1 = nI (S.CA c1)) : Met l y_Vw_bucketOf ws_Vw_bucketOf ({ frames := 1, cells := 0, slots := 0, locals := 60 }) (xw_Pc dC dI [(cI, .int), (cB, .byte), (cL, .long), (cZ, .boolean), (cR, .object "PatchStore$Repository")] [.ref h, .int (nI c1)] [(h, .inr (11, [vw_files, vw_namingsOf, vw_namings, vw_fileTotal, vw_namingTotal, .ref sk, vw_changes, vw_loaded, vw_version, vw_over, vw_round, vw_heads, vw_nexts, vw_sharing])), (sk, .inr (9, [.ref b_y, sk_from, sk_firstDependency, sk_firstChange, sk_dependencies, sk_hashes, sk_byHash, sk_leansOn, sk_leantBy, .ref ch, sk_lines, sk_patches])), (b_y, .inl (cB, 290000, .inl S.f)), (ch, .inr (1, [.ref cat, ch_patch, ch_file, ch_firstLine, ch_adds, ch_files])), (cat, .inl (cI, 38000, .inl Z.ca))] sz) (va_Qi (fun (r : Int32) (_ : Unit) => r = nI (b8 (hsN S.f (nmAt S.f (S.CA c1)) (b8 (S.f (nmAt S.f (S.CA c1))))))) (fun _ t => xw_B dC dI [(cI, .int), (cB, .byte), (cL, .long), (cZ, .boolean), (cR, .object "PatchStore$Repository")] (va_A [(h, .inr (11, [vw_files, vw_namingsOf, vw_namings, vw_fileTotal, vw_namingTotal, .ref sk, vw_changes, vw_loaded, vw_version, vw_over, vw_round, vw_heads, vw_nexts, vw_sharing])), (sk, .inr (9, [.ref b_y, sk_from, sk_firstDependency, sk_firstChange, sk_dependencies, sk_hashes, sk_byHash, sk_leansOn, sk_leantBy, .ref ch, sk_lines, sk_patches])), (b_y, .inl (cB, 290000, .inl S.f)), (ch, .inr (1, [.ref cat, ch_patch, ch_file, ch_firstLine, ch_adds, ch_files])), (cat, .inl (cI, 38000, .inl Z.ca))] sz) [(h, .inr (11, [vw_files, vw_namingsOf, vw_namings, vw_fileTotal, vw_namingTotal, .ref sk, vw_changes, vw_loaded, vw_version, vw_over, vw_round, vw_heads, vw_nexts, vw_sharing])), (sk, .inr (9, [.ref b_y, sk_from, sk_firstDependency, sk_firstChange, sk_dependencies, sk_hashes, sk_byHash, sk_leansOn, sk_leantBy, .ref ch, sk_lines, sk_patches])), (b_y, .inl (cB, 290000, .inl S.f)), (ch, .inr (1, [.ref cat, ch_patch, ch_file, ch_firstLine, ch_adds, ch_files])), (cat, .inl (cI, 38000, .inl Z.ca))] t) (va_A [(h, .inr (11, [vw_files, vw_namingsOf, vw_namings, vw_fileTotal, vw_namingTotal, .ref sk, vw_changes, vw_loaded, vw_version, vw_over, vw_round, vw_heads, vw_nexts, vw_sharing])), (sk, .inr (9, [.ref b_y, sk_from, sk_firstDependency, sk_firstChange, sk_dependencies, sk_hashes, sk_byHash, sk_leansOn, sk_leantBy, .ref ch, sk_lines, sk_patches])), (b_y, .inl (cB, 290000, .inl S.f)), (ch, .inr (1, [.ref cat, ch_patch, ch_file, ch_firstLine, ch_adds, ch_files])), (cat, .inl (cI, 38000, .inl Z.ca))] sz)) 0 0 (va_A [(h, .inr (11, [vw_files, vw_namingsOf, vw_namings, vw_fileTotal, vw_namingTotal, .ref sk, vw_changes, vw_loaded, vw_version, vw_over, vw_round, vw_heads, vw_nexts, vw_sharing])), (sk, .inr (9, [.ref b_y, sk_from, sk_firstDependency, sk_firstChange, sk_dependencies, sk_hashes, sk_byHash, sk_leansOn, sk_leantBy, .ref ch, sk_lines, sk_patches])), (b_y, .inl (cB, 290000, .inl S.f)), (ch, .inr (1, [.ref cat, ch_patch, ch_file, ch_firstLine, ch_adds, ch_files])), (cat, .inl (cI, 38000, .inl Z.ca))] sz) := by
  refine Met.ofW (cc := prog_12_method_10_code) (maxL := 5) (ret := (Option.some Jvm.ClassFile.FieldType.int)) (by decide) rfl ?_
  intro p e s m args below meth c s₁ B hml hv
  obtain ⟨rfl, hsz, hP, hK, hD0⟩ := hv
  have hx := B.exec
  have hb := B.bytes
  have hr := B.returns
  have hts0 := atoms_spec (ws := ws_Vw_bucketOf) B.pre
  have hts : ∀ w ∈ xg_1, w.before _ s = true := fun w h => hts0 w (List.mem_cons_of_mem _ h)
  have hown : s.vm.findClass "PatchStore$View" = some m.cls := findClass_of_methodNamed B.named
  have hlocks := B.notSynchronized
  subst hsz
  have hD := hD0.self (sz := s.heap.size)
  generalize hAe : va_A [(h, .inr (11, [vw_files, vw_namingsOf, vw_namings, vw_fileTotal, vw_namingTotal, .ref sk, vw_changes, vw_loaded, vw_version, vw_over, vw_round, vw_heads, vw_nexts, vw_sharing])), (sk, .inr (9, [.ref b_y, sk_from, sk_firstDependency, sk_firstChange, sk_dependencies, sk_hashes, sk_byHash, sk_leansOn, sk_leantBy, .ref ch, sk_lines, sk_patches])), (b_y, .inl (cB, 290000, .inl S.f)), (ch, .inr (1, [.ref cat, ch_patch, ch_file, ch_firstLine, ch_adds, ch_files])), (cat, .inl (cI, 38000, .inl Z.ca))] s.heap.size = A at hD ⊢
  have hA : ∀ q : Nat, s.heap.size ≤ q → A q := fun q h => by rw [← hAe]; exact Or.inr h
  have hS : va_S A s.heap s.heap [] := va_S.rf
  have hl := lv_entry ([.ref h, .int (nI c1)]) (n := 5) (Nat.le_of_ble_eq_true rfl)
  rw [lg_entry_eq]
  generalize (lg_sl ([.ref h, .int (nI c1)]) ++ List.replicate (5 - (lg_sl ([.ref h, .int (nI c1)])).length) Slot.unset).toArray = ls at hl ⊢
  have hl : lv_has ls 5 [(0, .ref h), (1, .int (nI c1))] := hl
  generalize hQe : MQ _ _ _ _ _ _ _ = Q
  have hi1 := h1n.2.2.2.1
  have hi3 := h1n.2.2.2.2.2
  refine lv_aload_n hx hb d_Vw_bucketOf_0 rfl (lv_at hl 0 rfl) ?_
  refine va_get (D := (dC, dI)) (ci := 11) (v := .ref sk) (C := R_Vw) (T := F_Vw) (N := 14) hx hb hts i_Vw hown hK hP 0 rfl rfl 5 (by decide) (hts _ gw_330) (fun _ h9 => h9) rfl d_Vw_bucketOf_1 ?_
  refine lv_iload_n hx hb d_Vw_bucketOf_4 rfl (lv_at hl 1 rfl) ?_
  have hPc := hP.sub (ws' := [(sk, .inr (9, [.ref b_y, sk_from, sk_firstDependency, sk_firstChange, sk_dependencies, sk_hashes, sk_byHash, sk_leansOn, sk_leantBy, .ref ch, sk_lines, sk_patches])), (b_y, .inl (cB, 290000, .inl S.f)), (ch, .inr (1, [.ref cat, ch_patch, ch_file, ch_firstLine, ch_adds, ch_files])), (cat, .inl (cI, 38000, .inl Z.ca))]) [1, 2, 3, 4] rfl
  have hDc := hD.sub (ws' := [(sk, .inr (9, [.ref b_y, sk_from, sk_firstDependency, sk_firstChange, sk_dependencies, sk_hashes, sk_byHash, sk_leansOn, sk_leantBy, .ref ch, sk_lines, sk_patches])), (b_y, .inl (cB, 290000, .inl S.f)), (ch, .inr (1, [.ref cat, ch_patch, ch_file, ch_firstLine, ch_adds, ch_files])), (cat, .inl (cI, 38000, .inl Z.ca))]) [1, 2, 3, 4] (by decide) rfl
  have hFc := va_free (wc := [(sk, .inr (9, [.ref b_y, sk_from, sk_firstDependency, sk_firstChange, sk_dependencies, sk_hashes, sk_byHash, sk_leansOn, sk_leantBy, .ref ch, sk_lines, sk_patches])), (b_y, .inl (cB, 290000, .inl S.f)), (ch, .inr (1, [.ref cat, ch_patch, ch_file, ch_firstLine, ch_adds, ch_files])), (cat, .inl (cI, 38000, .inl Z.ca))]) hD hS hA [1, 2, 3, 4] rfl
  refine va_calli (va_runV (As := [.int (nI c1)]) (rest := []) ⟨hx, hb, hml, hown, hts⟩ (m_St_nameAt l dC dI cI cB cL cZ cR sk b_y ch cat (sk_from) (sk_firstDependency) (sk_firstChange) (sk_dependencies) (sk_hashes) (sk_byHash) (sk_leansOn) (sk_leantBy) (sk_lines) (sk_patches) (ch_patch) (ch_file) (ch_firstLine) (ch_adds) (ch_files) S.f Z.ca c1 (S.CA c1) s.heap.size h1n.1 h1c h1n.2.2.1) (cwV 1 hts (xg_V gw_1332 gw_899 gw_900 gw_3 gw_901) rfl rfl rfl (by decide +kernel) ⟨Nat.le_of_ble_eq_true rfl, Nat.le_of_ble_eq_true rfl⟩) ⟨xw_blind, va_recv hK hPc (ci := 9) (q0 := 0) rfl rfl, fun U hU hW => ⟨rfl, by rw [hU], by rw [hU]; exact hPc, va_K.moved hW.alike hK, hDc.weaken (fun _ _ _ _ => trivial)⟩⟩ rfl rfl hl.1 rfl (lv_room (Nat.le_of_ble_eq_true rfl)) d_Vw_bucketOf_5 ⟨Nat.le_of_ble_eq_true rfl, Nat.le_of_ble_eq_true rfl⟩) hS (fun q _ h => hFc q h) hFc (fun r9 u t H1 locs ht hvm hw hB hz1 hk1 hS => ?_)
  obtain ⟨hP1, hK1, hD1⟩ := hB
  rw [ht] at hP1
  obtain ⟨hP, hD⟩ := va_join (wr := [(h, .inr (11, [vw_files, vw_namingsOf, vw_namings, vw_fileTotal, vw_namingTotal, .ref sk, vw_changes, vw_loaded, vw_version, vw_over, vw_round, vw_heads, vw_nexts, vw_sharing]))]) (w1 := [(sk, .inr (9, [.ref b_y, sk_from, sk_firstDependency, sk_firstChange, sk_dependencies, sk_hashes, sk_byHash, sk_leansOn, sk_leantBy, .ref ch, sk_lines, sk_patches])), (b_y, .inl (cB, 290000, .inl S.f)), (ch, .inr (1, [.ref cat, ch_patch, ch_file, ch_firstLine, ch_adds, ch_files])), (cat, .inl (cI, 38000, .inl Z.ca))]) hP hD [1, 2, 3, 4] [0] rfl rfl (by decide) (by decide) hk1 hFc hP1 hD1
  generalize H1 = H at hP hS ⊢
  have hP : va_P (dC, dI) classes [(h, .inr (11, [vw_files, vw_namingsOf, vw_namings, vw_fileTotal, vw_namingTotal, .ref sk, vw_changes, vw_loaded, vw_version, vw_over, vw_round, vw_heads, vw_nexts, vw_sharing])), (sk, .inr (9, [.ref b_y, sk_from, sk_firstDependency, sk_firstChange, sk_dependencies, sk_hashes, sk_byHash, sk_leansOn, sk_leantBy, .ref ch, sk_lines, sk_patches])), (b_y, .inl (cB, 290000, .inl S.f)), (ch, .inr (1, [.ref cat, ch_patch, ch_file, ch_firstLine, ch_adds, ch_files])), (cat, .inl (cI, 38000, .inl Z.ca))] H := hP
  have hD : va_D A [(h, .inr (11, [vw_files, vw_namingsOf, vw_namings, vw_fileTotal, vw_namingTotal, .ref sk, vw_changes, vw_loaded, vw_version, vw_over, vw_round, vw_heads, vw_nexts, vw_sharing])), (sk, .inr (9, [.ref b_y, sk_from, sk_firstDependency, sk_firstChange, sk_dependencies, sk_hashes, sk_byHash, sk_leansOn, sk_leantBy, .ref ch, sk_lines, sk_patches])), (b_y, .inl (cB, 290000, .inl S.f)), (ch, .inr (1, [.ref cat, ch_patch, ch_file, ch_firstLine, ch_adds, ch_files])), (cat, .inl (cI, 38000, .inl Z.ca))] := hD
  subst hw
  refine lv_istore_n (lv' := [(2, .int (nI (nmAt S.f (S.CA c1)))), (0, .ref h), (1, .int (nI c1))]) hx hb d_Vw_bucketOf_8 rfl hl (by decide) rfl (fun ls hl => ?_)
  refine lv_iconst (v := 0) hx hb d_Vw_bucketOf_9 (by decide) ?_
  refine lv_istore_n (lv' := [(3, .int 0), (2, .int (nI (nmAt S.f (S.CA c1)))), (0, .ref h), (1, .int (nI c1))]) hx hb d_Vw_bucketOf_10 rfl hl (by decide) rfl (fun ls hl => ?_)
  refine lv_iconst (v := 1) hx hb d_Vw_bucketOf_11 (by decide) ?_
  refine lv_istore (lv' := [(4, .int 1), (3, .int 0), (2, .int (nI (nmAt S.f (S.CA c1)))), (0, .ref h), (1, .int (nI c1))]) hx hb d_Vw_bucketOf_12 hl (by decide) rfl (fun ls hl => ?_)
  have loop_14 : ∀ (n9 : Nat) (i : Nat) (H : Heap) (locs : List Loc) (ls : Array Slot), (b8 (S.f (nmAt S.f (S.CA c1)))) - i < n9 → (i ≤ (b8 (S.f (nmAt S.f (S.CA c1))))) → va_P (dC, dI) classes [(h, .inr (11, [vw_files, vw_namingsOf, vw_namings, vw_fileTotal, vw_namingTotal, .ref sk, vw_changes, vw_loaded, vw_version, vw_over, vw_round, vw_heads, vw_nexts, vw_sharing])), (sk, .inr (9, [.ref b_y, sk_from, sk_firstDependency, sk_firstChange, sk_dependencies, sk_hashes, sk_byHash, sk_leansOn, sk_leantBy, .ref ch, sk_lines, sk_patches])), (b_y, .inl (cB, 290000, .inl S.f)), (ch, .inr (1, [.ref cat, ch_patch, ch_file, ch_firstLine, ch_adds, ch_files])), (cat, .inl (cI, 38000, .inl Z.ca))] H → va_D A [(h, .inr (11, [vw_files, vw_namingsOf, vw_namings, vw_fileTotal, vw_namingTotal, .ref sk, vw_changes, vw_loaded, vw_version, vw_over, vw_round, vw_heads, vw_nexts, vw_sharing])), (sk, .inr (9, [.ref b_y, sk_from, sk_firstDependency, sk_firstChange, sk_dependencies, sk_hashes, sk_byHash, sk_leansOn, sk_leantBy, .ref ch, sk_lines, sk_patches])), (b_y, .inl (cB, 290000, .inl S.f)), (ch, .inr (1, [.ref cat, ch_patch, ch_file, ch_firstLine, ch_adds, ch_files])), (cat, .inl (cI, 38000, .inl Z.ca))] → va_S A s.heap H locs → lv_has ls 5 [(0, .ref h), (2, .int (nI (nmAt S.f (S.CA c1)))), (3, .int (hsN S.f (nmAt S.f (S.CA c1)) i)), (4, .int (nI (i + 1)))] → W p l e (headSpec ws_Vw_bucketOf ({ frames := 1, cells := 0, slots := 0, locals := 60 })).room s m ([.ref h, .int (nI c1)] : List Value).toArray below meth c H locs 0 0 Q (F0 m 14 ls []) := by
    intro n9
    induction n9 with
    | zero => intro i H locs ls hm; exact absurd hm (Nat.not_lt_zero _)
    | succ n9 ih_14 =>
      intro i H locs ls hm hi hP hD hS hl
      refine lv_iload hx hb d_Vw_bucketOf_14 (lv_at hl 3 rfl) ?_
      refine lv_aload_n hx hb d_Vw_bucketOf_16 rfl (lv_at hl 0 rfl) ?_
      refine va_get (D := (dC, dI)) (ci := 11) (v := .ref sk) (C := R_Vw) (T := F_Vw) (N := 14) hx hb hts i_Vw hown hK hP 0 rfl rfl 5 (by decide) (hts _ gw_330) (fun _ h9 => h9) rfl d_Vw_bucketOf_17 ?_
      refine va_get (D := (dC, dI)) (ci := 9) (v := .ref b_y) (C := R_St) (T := F_St) (N := 12) hx hb hts i_St hown hK hP 1 rfl rfl 0 (by decide) (hts _ gw_183) (fun _ h9 => h9) rfl d_Vw_bucketOf_20 ?_
      refine lv_iload_n hx hb d_Vw_bucketOf_23 rfl (lv_at hl 1 rfl) ?_
      refine va_bald hx hb hK hP 2 1 rfl rfl (vp_in_nI (by omega) (by omega)) d_Vw_bucketOf_24 ?_
      rw [show (nI (nmAt S.f (S.CA c1))).toNatClampNeg = (nmAt S.f (S.CA c1)) from nI_clamp (by omega)]
      refine lv_topi (fun x_1 ex_1 => ?_)
      obtain rfl : x_1 = nI (b8 (S.f (nmAt S.f (S.CA c1)))) := by rw [ex_1]; first | done | (exact h1n.2.2.2.2.1)
      refine lv_icmp_gt (tgt := 52) hx hb d_Vw_bucketOf_25 (by decide) (fun c_25 => ?_) (fun c_25 => ?_)
      · have n_25 : (b8 (S.f (nmAt S.f (S.CA c1)))) < (i + 1) := (nI_ltI (a := (b8 (S.f (nmAt S.f (S.CA c1))))) (b := (i + 1)) (by omega) (by omega)).mp c_25
        refine lv_iload_n hx hb d_Vw_bucketOf_52 rfl (lv_at hl 2 rfl) ?_
        refine lv_sipush (v := 255) hx hb d_Vw_bucketOf_53 (by decide) ?_
        refine lv_iand hx hb d_Vw_bucketOf_56 ?_
        refine lv_topi (fun x_2 ex_2 => ?_)
        obtain rfl : x_2 = nI (b8 (hsN S.f (nmAt S.f (S.CA c1)) i)) := by rw [ex_2]; first | done | (exact b8_eq _)
        rw [← hQe]
        exact W.iret (v := nI (b8 (hsN S.f (nmAt S.f (S.CA c1)) i))) hx hb hr (fun t ht hW => ⟨⟨_, (), rfl, by rw [show i = (b8 (S.f (nmAt S.f (S.CA c1)))) by omega], by rw [ht]; exact hP, va_K.moved hW.alike hK, hD⟩, hS.F ht⟩) hS.2.2 d_Vw_bucketOf_57
      · have n_25 : (i + 1) ≤ (b8 (S.f (nmAt S.f (S.CA c1)))) := Nat.le_of_not_lt (fun z => c_25 ((nI_ltI (a := (b8 (S.f (nmAt S.f (S.CA c1))))) (b := (i + 1)) (by omega) (by omega)).mpr z))
        refine lv_iload_n hx hb d_Vw_bucketOf_28 rfl (lv_at hl 2 rfl) ?_
        refine lv_bipush (v := 31) hx hb d_Vw_bucketOf_29 (by decide) ?_
        refine lv_imul hx hb d_Vw_bucketOf_31 ?_
        refine lv_aload_n hx hb d_Vw_bucketOf_32 rfl (lv_at hl 0 rfl) ?_
        refine va_get (D := (dC, dI)) (ci := 11) (v := .ref sk) (C := R_Vw) (T := F_Vw) (N := 14) hx hb hts i_Vw hown hK hP 0 rfl rfl 5 (by decide) (hts _ gw_330) (fun _ h9 => h9) rfl d_Vw_bucketOf_33 ?_
        refine va_get (D := (dC, dI)) (ci := 9) (v := .ref b_y) (C := R_St) (T := F_St) (N := 12) hx hb hts i_St hown hK hP 1 rfl rfl 0 (by decide) (hts _ gw_183) (fun _ h9 => h9) rfl d_Vw_bucketOf_36 ?_
        refine lv_iload_n hx hb d_Vw_bucketOf_39 rfl (lv_at hl 1 rfl) ?_
        refine lv_iload hx hb d_Vw_bucketOf_40 (lv_at hl 3 rfl) ?_
        refine lv_iadd hx hb d_Vw_bucketOf_42 ?_
        refine lv_topi (fun x_3 ex_3 => ?_)
        obtain rfl : x_3 = nI ((nmAt S.f (S.CA c1)) + (i + 1)) := by rw [ex_3]; first | done | (exact nI_add _ _)
        refine va_bald hx hb hK hP 2 1 rfl rfl (vp_in_nI (by omega) (by omega)) d_Vw_bucketOf_43 ?_
        rw [show (nI ((nmAt S.f (S.CA c1)) + (i + 1))).toNatClampNeg = ((nmAt S.f (S.CA c1)) + (i + 1)) from nI_clamp (by omega)]
        refine lv_iadd hx hb d_Vw_bucketOf_44 ?_
        refine lv_topi (fun x_4 ex_4 => ?_)
        obtain rfl : x_4 = hsN S.f (nmAt S.f (S.CA c1)) (i + 1) := by rw [ex_4]; first | done | (rfl)
        refine lv_istore_n (lv' := [(3, .int (hsN S.f (nmAt S.f (S.CA c1)) (i + 1))), (0, .ref h), (2, .int (nI (nmAt S.f (S.CA c1)))), (4, .int (nI (i + 1)))]) hx hb d_Vw_bucketOf_45 rfl hl (by decide) rfl (fun ls hl => ?_)
        refine lv_iinc (v := nI (i + 1 + 1)) (lv' := [(4, .int (nI (i + 1 + 1))), (3, .int (hsN S.f (nmAt S.f (S.CA c1)) (i + 1))), (0, .ref h), (2, .int (nI (nmAt S.f (S.CA c1))))]) hx hb d_Vw_bucketOf_46 hl (k := 3) rfl (by exact nI_add _ _) (by decide) rfl (fun ls hl => ?_)
        refine lv_goto (tgt := 14) hx hb d_Vw_bucketOf_49 (by decide) ?_
        exact ih_14 (i + 1) _ _ _ (by omega) (by omega) hP hD hS (lv_sub hl [2, 3, 1, 0] rfl)
  exact loop_14 _ 0 _ _ _ (Nat.lt_succ_self _) (Nat.zero_le _) hP hD hS (lv_sub hl [3, 2, 1, 0] rfl)
set_option maxHeartbeats 4000000 in
set_option maxRecDepth 100000 in
/-- a naming meets those in front of it -/
theorem m_Vw_meet (l : Launch) (dC : Nat → ClassId) (dI : Nat → Nat → Nat) (cI cB cL cZ cR : ClassId) (h sk b_y ch cat cfA vnA vhA vxA vsA : Nat) (vw_files vw_namingsOf vw_fileTotal vw_namingTotal vw_loaded vw_version vw_over vw_round sk_from sk_firstDependency sk_firstChange sk_dependencies sk_hashes sk_byHash sk_leansOn sk_leantBy sk_lines sk_patches ch_patch ch_firstLine ch_adds ch_files : Value) (Z : StkA) (S : Stk) (vn hd nx sh9 : Nat → Int32) (L : List Nat) (K1 : Nat → List Nat) (n1 : Nat) (sz : Nat) (hvn : arrL vn L) (hnm : ∀ c, c ∈ L → nmIn S c ∧ Z.ca c = nI (S.CA c) ∧ Z.cf c = nI (S.CF c)) (hLl : L.length ≤ 16800) (hn1 : n1 < L.length) (hcS : chS S L hd nx sh9 n1 K1) : Met l y_Vw_meet ws_Vw_meet ({ frames := 2, cells := 0, slots := 0, locals := 120 }) (xw_Pc dC dI [(cI, .int), (cB, .byte), (cL, .long), (cZ, .boolean), (cR, .object "PatchStore$Repository")] [.ref h, .int (nI n1)] [(h, .inr (11, [vw_files, vw_namingsOf, .ref vnA, vw_fileTotal, vw_namingTotal, .ref sk, .ref ch, vw_loaded, vw_version, vw_over, vw_round, .ref vhA, .ref vxA, .ref vsA])), (sk, .inr (9, [.ref b_y, sk_from, sk_firstDependency, sk_firstChange, sk_dependencies, sk_hashes, sk_byHash, sk_leansOn, sk_leantBy, .ref ch, sk_lines, sk_patches])), (b_y, .inl (cB, 290000, .inl S.f)), (ch, .inr (1, [.ref cat, ch_patch, .ref cfA, ch_firstLine, ch_adds, ch_files])), (cat, .inl (cI, 38000, .inl Z.ca)), (cfA, .inl (cI, 38000, .inl Z.cf)), (vnA, .inl (cI, 16800, .inl vn)), (vhA, .inl (cI, 256, .inl hd)), (vxA, .inl (cI, 16800, .inl nx)), (vsA, .inl (cI, 200, .inl sh9))] sz) (va_Qv (fun u : (Nat → Int32) × (Nat → Int32) × (Nat → Int32) × (Nat → List Nat) => chS S L u.1 u.2.1 u.2.2.1 (n1 + 1) u.2.2.2) (fun u t => xw_B dC dI [(cI, .int), (cB, .byte), (cL, .long), (cZ, .boolean), (cR, .object "PatchStore$Repository")] (va_A [(h, .inr (11, [vw_files, vw_namingsOf, .ref vnA, vw_fileTotal, vw_namingTotal, .ref sk, .ref ch, vw_loaded, vw_version, vw_over, vw_round, .ref vhA, .ref vxA, .ref vsA])), (sk, .inr (9, [.ref b_y, sk_from, sk_firstDependency, sk_firstChange, sk_dependencies, sk_hashes, sk_byHash, sk_leansOn, sk_leantBy, .ref ch, sk_lines, sk_patches])), (b_y, .inl (cB, 290000, .inl S.f)), (ch, .inr (1, [.ref cat, ch_patch, .ref cfA, ch_firstLine, ch_adds, ch_files])), (cat, .inl (cI, 38000, .inl Z.ca)), (cfA, .inl (cI, 38000, .inl Z.cf)), (vnA, .inl (cI, 16800, .inl vn)), (vhA, .inl (cI, 256, .inl hd)), (vxA, .inl (cI, 16800, .inl nx)), (vsA, .inl (cI, 200, .inl sh9))] sz) [(h, .inr (11, [vw_files, vw_namingsOf, .ref vnA, vw_fileTotal, vw_namingTotal, .ref sk, .ref ch, vw_loaded, vw_version, vw_over, vw_round, .ref vhA, .ref vxA, .ref vsA])), (sk, .inr (9, [.ref b_y, sk_from, sk_firstDependency, sk_firstChange, sk_dependencies, sk_hashes, sk_byHash, sk_leansOn, sk_leantBy, .ref ch, sk_lines, sk_patches])), (b_y, .inl (cB, 290000, .inl S.f)), (ch, .inr (1, [.ref cat, ch_patch, .ref cfA, ch_firstLine, ch_adds, ch_files])), (cat, .inl (cI, 38000, .inl Z.ca)), (cfA, .inl (cI, 38000, .inl Z.cf)), (vnA, .inl (cI, 16800, .inl vn)), (vhA, .inl (cI, 256, .inl u.1)), (vxA, .inl (cI, 16800, .inl u.2.1)), (vsA, .inl (cI, 200, .inl u.2.2.1))] t) (va_A [(h, .inr (11, [vw_files, vw_namingsOf, .ref vnA, vw_fileTotal, vw_namingTotal, .ref sk, .ref ch, vw_loaded, vw_version, vw_over, vw_round, .ref vhA, .ref vxA, .ref vsA])), (sk, .inr (9, [.ref b_y, sk_from, sk_firstDependency, sk_firstChange, sk_dependencies, sk_hashes, sk_byHash, sk_leansOn, sk_leantBy, .ref ch, sk_lines, sk_patches])), (b_y, .inl (cB, 290000, .inl S.f)), (ch, .inr (1, [.ref cat, ch_patch, .ref cfA, ch_firstLine, ch_adds, ch_files])), (cat, .inl (cI, 38000, .inl Z.ca)), (cfA, .inl (cI, 38000, .inl Z.cf)), (vnA, .inl (cI, 16800, .inl vn)), (vhA, .inl (cI, 256, .inl hd)), (vxA, .inl (cI, 16800, .inl nx)), (vsA, .inl (cI, 200, .inl sh9))] sz)) 0 0 (va_A [(h, .inr (11, [vw_files, vw_namingsOf, .ref vnA, vw_fileTotal, vw_namingTotal, .ref sk, .ref ch, vw_loaded, vw_version, vw_over, vw_round, .ref vhA, .ref vxA, .ref vsA])), (sk, .inr (9, [.ref b_y, sk_from, sk_firstDependency, sk_firstChange, sk_dependencies, sk_hashes, sk_byHash, sk_leansOn, sk_leantBy, .ref ch, sk_lines, sk_patches])), (b_y, .inl (cB, 290000, .inl S.f)), (ch, .inr (1, [.ref cat, ch_patch, .ref cfA, ch_firstLine, ch_adds, ch_files])), (cat, .inl (cI, 38000, .inl Z.ca)), (cfA, .inl (cI, 38000, .inl Z.cf)), (vnA, .inl (cI, 16800, .inl vn)), (vhA, .inl (cI, 256, .inl hd)), (vxA, .inl (cI, 16800, .inl nx)), (vsA, .inl (cI, 200, .inl sh9))] sz) := by
  refine Met.ofW (cc := prog_12_method_9_code) (maxL := 6) (ret := none) (by decide) rfl ?_
  intro p e s m args below meth c s₁ B hml hv
  obtain ⟨rfl, hsz, hP, hK, hD0⟩ := hv
  have hx := B.exec
  have hb := B.bytes
  have hr := B.returns
  have hts0 := atoms_spec (ws := ws_Vw_meet) B.pre
  have hts : ∀ w ∈ xg_1, w.before _ s = true := fun w h => hts0 w (List.mem_cons_of_mem _ h)
  have hown : s.vm.findClass "PatchStore$View" = some m.cls := findClass_of_methodNamed B.named
  have hlocks := B.notSynchronized
  subst hsz
  have hD := hD0.self (sz := s.heap.size)
  generalize hAe : va_A [(h, .inr (11, [vw_files, vw_namingsOf, .ref vnA, vw_fileTotal, vw_namingTotal, .ref sk, .ref ch, vw_loaded, vw_version, vw_over, vw_round, .ref vhA, .ref vxA, .ref vsA])), (sk, .inr (9, [.ref b_y, sk_from, sk_firstDependency, sk_firstChange, sk_dependencies, sk_hashes, sk_byHash, sk_leansOn, sk_leantBy, .ref ch, sk_lines, sk_patches])), (b_y, .inl (cB, 290000, .inl S.f)), (ch, .inr (1, [.ref cat, ch_patch, .ref cfA, ch_firstLine, ch_adds, ch_files])), (cat, .inl (cI, 38000, .inl Z.ca)), (cfA, .inl (cI, 38000, .inl Z.cf)), (vnA, .inl (cI, 16800, .inl vn)), (vhA, .inl (cI, 256, .inl hd)), (vxA, .inl (cI, 16800, .inl nx)), (vsA, .inl (cI, 200, .inl sh9))] s.heap.size = A at hD ⊢
  have hA : ∀ q : Nat, s.heap.size ≤ q → A q := fun q h => by rw [← hAe]; exact Or.inr h
  have hS : va_S A s.heap s.heap [] := va_S.rf
  have hl := lv_entry ([.ref h, .int (nI n1)]) (n := 6) (Nat.le_of_ble_eq_true rfl)
  rw [lg_entry_eq]
  generalize (lg_sl ([.ref h, .int (nI n1)]) ++ List.replicate (6 - (lg_sl ([.ref h, .int (nI n1)])).length) Slot.unset).toArray = ls at hl ⊢
  have hl : lv_has ls 6 [(0, .ref h), (1, .int (nI n1))] := hl
  generalize hQe : MQ _ _ _ _ _ _ _ = Q
  obtain ⟨hin, hica, hicf⟩ := hnm _ (getD_mem hn1)
  have hicb := hin.2.1
  have hic38 := hin.1
  have hbk : (bkN S L n1) < 256 := b8_lt _
  have hcb := hcS.1 (bkN S L n1) hbk
  refine lv_aload_n hx hb d_Vw_meet_0 rfl (lv_at hl 0 rfl) ?_
  refine lv_aload_n hx hb d_Vw_meet_1 rfl (lv_at hl 0 rfl) ?_
  refine va_get (D := (dC, dI)) (ci := 11) (v := .ref vnA) (C := R_Vw) (T := F_Vw) (N := 14) hx hb hts i_Vw hown hK hP 0 rfl rfl 2 (by decide) (hts _ gw_324) (fun _ h9 => h9) rfl d_Vw_meet_2 ?_
  refine lv_iload_n hx hb d_Vw_meet_5 rfl (lv_at hl 1 rfl) ?_
  refine va_iald hx hb hK hP 6 0 rfl rfl (vp_in_nI (by omega) (by omega)) d_Vw_meet_6 ?_
  rw [show (nI n1).toNatClampNeg = n1 from nI_clamp (by omega)]
  refine lv_topi (fun x_1 ex_1 => ?_)
  obtain rfl : x_1 = nI (L.getD n1 0) := by rw [ex_1]; first | done | (exact hvn n1 hn1)
  have hPc := hP.sub (ws' := [(h, .inr (11, [vw_files, vw_namingsOf, .ref vnA, vw_fileTotal, vw_namingTotal, .ref sk, .ref ch, vw_loaded, vw_version, vw_over, vw_round, .ref vhA, .ref vxA, .ref vsA])), (sk, .inr (9, [.ref b_y, sk_from, sk_firstDependency, sk_firstChange, sk_dependencies, sk_hashes, sk_byHash, sk_leansOn, sk_leantBy, .ref ch, sk_lines, sk_patches])), (b_y, .inl (cB, 290000, .inl S.f)), (ch, .inr (1, [.ref cat, ch_patch, .ref cfA, ch_firstLine, ch_adds, ch_files])), (cat, .inl (cI, 38000, .inl Z.ca))]) [0, 1, 2, 3, 4] rfl
  have hDc := hD.sub (ws' := [(h, .inr (11, [vw_files, vw_namingsOf, .ref vnA, vw_fileTotal, vw_namingTotal, .ref sk, .ref ch, vw_loaded, vw_version, vw_over, vw_round, .ref vhA, .ref vxA, .ref vsA])), (sk, .inr (9, [.ref b_y, sk_from, sk_firstDependency, sk_firstChange, sk_dependencies, sk_hashes, sk_byHash, sk_leansOn, sk_leantBy, .ref ch, sk_lines, sk_patches])), (b_y, .inl (cB, 290000, .inl S.f)), (ch, .inr (1, [.ref cat, ch_patch, .ref cfA, ch_firstLine, ch_adds, ch_files])), (cat, .inl (cI, 38000, .inl Z.ca))]) [0, 1, 2, 3, 4] (by decide) rfl
  have hFc := va_free (wc := [(h, .inr (11, [vw_files, vw_namingsOf, .ref vnA, vw_fileTotal, vw_namingTotal, .ref sk, .ref ch, vw_loaded, vw_version, vw_over, vw_round, .ref vhA, .ref vxA, .ref vsA])), (sk, .inr (9, [.ref b_y, sk_from, sk_firstDependency, sk_firstChange, sk_dependencies, sk_hashes, sk_byHash, sk_leansOn, sk_leantBy, .ref ch, sk_lines, sk_patches])), (b_y, .inl (cB, 290000, .inl S.f)), (ch, .inr (1, [.ref cat, ch_patch, .ref cfA, ch_firstLine, ch_adds, ch_files])), (cat, .inl (cI, 38000, .inl Z.ca))]) hD hS hA [0, 1, 2, 3, 4] rfl
  refine va_calli (va_runV (As := [.int (nI (L.getD n1 0))]) (rest := []) ⟨hx, hb, hml, hown, hts⟩ (m_Vw_bucketOf l dC dI cI cB cL cZ cR h sk b_y ch cat (vw_files) (vw_namingsOf) (.ref vnA) (vw_fileTotal) (vw_namingTotal) (.ref ch) (vw_loaded) (vw_version) (vw_over) (vw_round) (.ref vhA) (.ref vxA) (.ref vsA) (sk_from) (sk_firstDependency) (sk_firstChange) (sk_dependencies) (sk_hashes) (sk_byHash) (sk_leansOn) (sk_leantBy) (sk_lines) (sk_patches) (ch_patch) (.ref cfA) (ch_firstLine) (ch_adds) (ch_files) Z S (L.getD n1 0) s.heap.size hin hica) (cwV 1 hts (xg_V gw_1328 gw_1330 (xg_p 67 (q := (⟨"PatchStore$View", "bucketOf", "(I)I"⟩, 14)) (by decide +kernel)) gw_8 gw_1331) rfl rfl rfl (by decide +kernel) ⟨Nat.le_of_ble_eq_true rfl, Nat.le_of_ble_eq_true rfl⟩) ⟨xw_blind, va_recv hK hPc (ci := 11) (q0 := 0) rfl rfl, fun U hU hW => ⟨rfl, by rw [hU], by rw [hU]; exact hPc, va_K.moved hW.alike hK, hDc.weaken (fun _ _ _ _ => trivial)⟩⟩ rfl rfl hl.1 rfl (lv_room (Nat.le_of_ble_eq_true rfl)) d_Vw_meet_7 ⟨Nat.le_of_ble_eq_true rfl, Nat.le_of_ble_eq_true rfl⟩) hS (fun q _ h => hFc q h) hFc (fun r9 u t H1 locs ht hvm hw hB hz1 hk1 hS => ?_)
  obtain ⟨hP1, hK1, hD1⟩ := hB
  rw [ht] at hP1
  obtain ⟨hP, hD⟩ := va_join (wr := [(cfA, .inl (cI, 38000, .inl Z.cf)), (vnA, .inl (cI, 16800, .inl vn)), (vhA, .inl (cI, 256, .inl hd)), (vxA, .inl (cI, 16800, .inl nx)), (vsA, .inl (cI, 200, .inl sh9))]) (w1 := [(h, .inr (11, [vw_files, vw_namingsOf, .ref vnA, vw_fileTotal, vw_namingTotal, .ref sk, .ref ch, vw_loaded, vw_version, vw_over, vw_round, .ref vhA, .ref vxA, .ref vsA])), (sk, .inr (9, [.ref b_y, sk_from, sk_firstDependency, sk_firstChange, sk_dependencies, sk_hashes, sk_byHash, sk_leansOn, sk_leantBy, .ref ch, sk_lines, sk_patches])), (b_y, .inl (cB, 290000, .inl S.f)), (ch, .inr (1, [.ref cat, ch_patch, .ref cfA, ch_firstLine, ch_adds, ch_files])), (cat, .inl (cI, 38000, .inl Z.ca))]) hP hD [0, 1, 2, 3, 4] [5, 6, 7, 8, 9] rfl rfl (by decide) (by decide) hk1 hFc hP1 hD1
  generalize H1 = H at hP hS ⊢
  have hP : va_P (dC, dI) classes [(cfA, .inl (cI, 38000, .inl Z.cf)), (vnA, .inl (cI, 16800, .inl vn)), (vhA, .inl (cI, 256, .inl hd)), (vxA, .inl (cI, 16800, .inl nx)), (vsA, .inl (cI, 200, .inl sh9)), (h, .inr (11, [vw_files, vw_namingsOf, .ref vnA, vw_fileTotal, vw_namingTotal, .ref sk, .ref ch, vw_loaded, vw_version, vw_over, vw_round, .ref vhA, .ref vxA, .ref vsA])), (sk, .inr (9, [.ref b_y, sk_from, sk_firstDependency, sk_firstChange, sk_dependencies, sk_hashes, sk_byHash, sk_leansOn, sk_leantBy, .ref ch, sk_lines, sk_patches])), (b_y, .inl (cB, 290000, .inl S.f)), (ch, .inr (1, [.ref cat, ch_patch, .ref cfA, ch_firstLine, ch_adds, ch_files])), (cat, .inl (cI, 38000, .inl Z.ca))] H := hP
  have hD : va_D A [(cfA, .inl (cI, 38000, .inl Z.cf)), (vnA, .inl (cI, 16800, .inl vn)), (vhA, .inl (cI, 256, .inl hd)), (vxA, .inl (cI, 16800, .inl nx)), (vsA, .inl (cI, 200, .inl sh9)), (h, .inr (11, [vw_files, vw_namingsOf, .ref vnA, vw_fileTotal, vw_namingTotal, .ref sk, .ref ch, vw_loaded, vw_version, vw_over, vw_round, .ref vhA, .ref vxA, .ref vsA])), (sk, .inr (9, [.ref b_y, sk_from, sk_firstDependency, sk_firstChange, sk_dependencies, sk_hashes, sk_byHash, sk_leansOn, sk_leantBy, .ref ch, sk_lines, sk_patches])), (b_y, .inl (cB, 290000, .inl S.f)), (ch, .inr (1, [.ref cat, ch_patch, .ref cfA, ch_firstLine, ch_adds, ch_files])), (cat, .inl (cI, 38000, .inl Z.ca))] := hD
  obtain rfl : r9 = nI (bkN S L n1) := hw
  refine lv_istore_n (lv' := [(2, .int (nI (bkN S L n1))), (0, .ref h), (1, .int (nI n1))]) hx hb d_Vw_meet_10 rfl hl (by decide) rfl (fun ls hl => ?_)
  refine lv_aload_n hx hb d_Vw_meet_11 rfl (lv_at hl 1 rfl) ?_
  refine va_get (D := (dC, dI)) (ci := 11) (v := .ref vhA) (C := R_Vw) (T := F_Vw) (N := 14) hx hb hts i_Vw hown hK hP 5 rfl rfl 11 (by decide) (hts _ gw_336) (fun _ h9 => h9) rfl d_Vw_meet_12 ?_
  refine lv_iload_n hx hb d_Vw_meet_15 rfl (lv_at hl 0 rfl) ?_
  refine va_iald hx hb hK hP 2 0 rfl rfl (vp_in_nI (by omega) (by omega)) d_Vw_meet_16 ?_
  rw [show (nI (bkN S L n1)).toNatClampNeg = (bkN S L n1) from nI_clamp (by omega)]
  refine lv_topi (fun x_2 ex_2 => ?_)
  obtain rfl : x_2 = lk (K1 (bkN S L n1)) := by rw [ex_2]; first | done | (exact hcb.1)
  refine lv_istore_n (lv' := [(3, .int (lk (K1 (bkN S L n1)))), (2, .int (nI (bkN S L n1))), (0, .ref h), (1, .int (nI n1))]) hx hb d_Vw_meet_17 rfl hl (by decide) rfl (fun ls hl => ?_)
  refine lv_iconst (v := 0) hx hb d_Vw_meet_18 (by decide) ?_
  refine lv_istore (lv' := [(4, .int 0), (3, .int (lk (K1 (bkN S L n1)))), (2, .int (nI (bkN S L n1))), (0, .ref h), (1, .int (nI n1))]) hx hb d_Vw_meet_19 hl (by decide) rfl (fun ls hl => ?_)
  have loop_21 : ∀ (n9 : Nat) (st : Nat) (Tp : List Nat) (H : Heap) (locs : List Loc) (ls : Array Slot), n1 + 1 - st < n9 → (st + Tp.length ≤ n1) → (∀ k, k ∈ K1 (bkN S L n1) → k ∈ Tp ∨ ¬ smN S L k n1) → (∀ k, k ∈ Tp → k ∈ K1 (bkN S L n1)) → (chOK nx Tp) → va_P (dC, dI) classes [(h, .inr (11, [vw_files, vw_namingsOf, .ref vnA, vw_fileTotal, vw_namingTotal, .ref sk, .ref ch, vw_loaded, vw_version, vw_over, vw_round, .ref vhA, .ref vxA, .ref vsA])), (sk, .inr (9, [.ref b_y, sk_from, sk_firstDependency, sk_firstChange, sk_dependencies, sk_hashes, sk_byHash, sk_leansOn, sk_leantBy, .ref ch, sk_lines, sk_patches])), (b_y, .inl (cB, 290000, .inl S.f)), (ch, .inr (1, [.ref cat, ch_patch, .ref cfA, ch_firstLine, ch_adds, ch_files])), (cat, .inl (cI, 38000, .inl Z.ca)), (cfA, .inl (cI, 38000, .inl Z.cf)), (vnA, .inl (cI, 16800, .inl vn)), (vhA, .inl (cI, 256, .inl hd)), (vxA, .inl (cI, 16800, .inl nx)), (vsA, .inl (cI, 200, .inl sh9))] H → va_D A [(h, .inr (11, [vw_files, vw_namingsOf, .ref vnA, vw_fileTotal, vw_namingTotal, .ref sk, .ref ch, vw_loaded, vw_version, vw_over, vw_round, .ref vhA, .ref vxA, .ref vsA])), (sk, .inr (9, [.ref b_y, sk_from, sk_firstDependency, sk_firstChange, sk_dependencies, sk_hashes, sk_byHash, sk_leansOn, sk_leantBy, .ref ch, sk_lines, sk_patches])), (b_y, .inl (cB, 290000, .inl S.f)), (ch, .inr (1, [.ref cat, ch_patch, .ref cfA, ch_firstLine, ch_adds, ch_files])), (cat, .inl (cI, 38000, .inl Z.ca)), (cfA, .inl (cI, 38000, .inl Z.cf)), (vnA, .inl (cI, 16800, .inl vn)), (vhA, .inl (cI, 256, .inl hd)), (vxA, .inl (cI, 16800, .inl nx)), (vsA, .inl (cI, 200, .inl sh9))] → va_S A s.heap H locs → lv_has ls 6 [(0, .ref h), (1, .int (nI n1)), (2, .int (nI (bkN S L n1))), (3, .int (lk Tp)), (4, .int (nI st))] → W p l e (headSpec ws_Vw_meet ({ frames := 2, cells := 0, slots := 0, locals := 120 })).room s m ([.ref h, .int (nI n1)] : List Value).toArray below meth c H locs 0 0 Q (F0 m 21 ls []) := by
    intro n9
    induction n9 with
    | zero => intro st Tp H locs ls hm; exact absurd hm (Nat.not_lt_zero _)
    | succ n9 ih_21 =>
      intro st Tp H locs ls hm hst hsf hsu hck hP hD hS hl
      refine lv_iload hx hb d_Vw_meet_21 (lv_at hl 4 rfl) ?_
      refine lv_iload_n hx hb d_Vw_meet_23 rfl (lv_at hl 1 rfl) ?_
      refine lv_icmp_ge (tgt := 64) hx hb d_Vw_meet_24 (by decide) (fun c_24 => ?_) (fun c_24 => ?_)
      · have n_24 : n1 ≤ st := (nI_leI (a := n1) (b := st) (by omega) (by omega)).mp c_24
        obtain rfl : Tp = [] := List.eq_nil_of_length_eq_zero (by omega)
        have hl : lv_has ls 6 [(0, .ref h), (1, .int (nI n1)), (2, .int (nI (bkN S L n1))), (3, .int (-1)), (4, .int (nI st))] := hl
        refine lv_iload_n hx hb d_Vw_meet_64 rfl (lv_at hl 3 rfl) ?_
        refine lv_iconst (v := (-1)) hx hb d_Vw_meet_65 (by decide) ?_
        refine lv_icmp_ne (tgt := 89) hx hb d_Vw_meet_66 (by decide) (fun c_66 => absurd c_66 (by decide)) (fun _ => ?_)
        refine lv_aload_n hx hb d_Vw_meet_69 rfl (lv_at hl 0 rfl) ?_
        refine va_get (D := (dC, dI)) (ci := 11) (v := .ref vxA) (C := R_Vw) (T := F_Vw) (N := 14) hx hb hts i_Vw hown hK hP 0 rfl rfl 12 (by decide) (hts _ gw_337) (fun _ h9 => h9) rfl d_Vw_meet_70 ?_
        refine lv_iload_n hx hb d_Vw_meet_73 rfl (lv_at hl 1 rfl) ?_
        refine lv_aload_n hx hb d_Vw_meet_74 rfl (lv_at hl 0 rfl) ?_
        refine va_get (D := (dC, dI)) (ci := 11) (v := .ref vhA) (C := R_Vw) (T := F_Vw) (N := 14) hx hb hts i_Vw hown hK hP 0 rfl rfl 11 (by decide) (hts _ gw_336) (fun _ h9 => h9) rfl d_Vw_meet_75 ?_
        refine lv_iload_n hx hb d_Vw_meet_78 rfl (lv_at hl 2 rfl) ?_
        refine va_iald hx hb hK hP 7 0 rfl rfl (vp_in_nI (by omega) (by omega)) d_Vw_meet_79 ?_
        rw [show (nI (bkN S L n1)).toNatClampNeg = (bkN S L n1) from nI_clamp (by omega)]
        refine va_iast hx hb hK hP hD hS 8 0 rfl rfl (vp_in_nI (by omega) (by omega)) d_Vw_meet_80 (fun H locs hP hD hS => ?_)
        rw [show (nI n1).toNatClampNeg = n1 from nI_clamp (by omega)] at hP hD
        have hP : va_P (dC, dI) classes [(h, .inr (11, [vw_files, vw_namingsOf, .ref vnA, vw_fileTotal, vw_namingTotal, .ref sk, .ref ch, vw_loaded, vw_version, vw_over, vw_round, .ref vhA, .ref vxA, .ref vsA])), (sk, .inr (9, [.ref b_y, sk_from, sk_firstDependency, sk_firstChange, sk_dependencies, sk_hashes, sk_byHash, sk_leansOn, sk_leantBy, .ref ch, sk_lines, sk_patches])), (b_y, .inl (cB, 290000, .inl S.f)), (ch, .inr (1, [.ref cat, ch_patch, .ref cfA, ch_firstLine, ch_adds, ch_files])), (cat, .inl (cI, 38000, .inl Z.ca)), (cfA, .inl (cI, 38000, .inl Z.cf)), (vnA, .inl (cI, 16800, .inl vn)), (vhA, .inl (cI, 256, .inl hd)), (vxA, .inl (cI, 16800, .inl (upd nx n1 (hd (bkN S L n1))))), (vsA, .inl (cI, 200, .inl sh9))] H := hP
        have hD : va_D A [(h, .inr (11, [vw_files, vw_namingsOf, .ref vnA, vw_fileTotal, vw_namingTotal, .ref sk, .ref ch, vw_loaded, vw_version, vw_over, vw_round, .ref vhA, .ref vxA, .ref vsA])), (sk, .inr (9, [.ref b_y, sk_from, sk_firstDependency, sk_firstChange, sk_dependencies, sk_hashes, sk_byHash, sk_leansOn, sk_leantBy, .ref ch, sk_lines, sk_patches])), (b_y, .inl (cB, 290000, .inl S.f)), (ch, .inr (1, [.ref cat, ch_patch, .ref cfA, ch_firstLine, ch_adds, ch_files])), (cat, .inl (cI, 38000, .inl Z.ca)), (cfA, .inl (cI, 38000, .inl Z.cf)), (vnA, .inl (cI, 16800, .inl vn)), (vhA, .inl (cI, 256, .inl hd)), (vxA, .inl (cI, 16800, .inl (upd nx n1 (hd (bkN S L n1))))), (vsA, .inl (cI, 200, .inl sh9))] := hD
        refine lv_aload_n hx hb d_Vw_meet_81 rfl (lv_at hl 0 rfl) ?_
        refine va_get (D := (dC, dI)) (ci := 11) (v := .ref vhA) (C := R_Vw) (T := F_Vw) (N := 14) hx hb hts i_Vw hown hK hP 0 rfl rfl 11 (by decide) (hts _ gw_336) (fun _ h9 => h9) rfl d_Vw_meet_82 ?_
        refine lv_iload_n hx hb d_Vw_meet_85 rfl (lv_at hl 2 rfl) ?_
        refine lv_iload_n hx hb d_Vw_meet_86 rfl (lv_at hl 1 rfl) ?_
        refine va_iast hx hb hK hP hD hS 7 0 rfl rfl (vp_in_nI (by omega) (by omega)) d_Vw_meet_87 (fun H locs hP hD hS => ?_)
        rw [show (nI (bkN S L n1)).toNatClampNeg = (bkN S L n1) from nI_clamp (by omega)] at hP hD
        have hP : va_P (dC, dI) classes [(h, .inr (11, [vw_files, vw_namingsOf, .ref vnA, vw_fileTotal, vw_namingTotal, .ref sk, .ref ch, vw_loaded, vw_version, vw_over, vw_round, .ref vhA, .ref vxA, .ref vsA])), (sk, .inr (9, [.ref b_y, sk_from, sk_firstDependency, sk_firstChange, sk_dependencies, sk_hashes, sk_byHash, sk_leansOn, sk_leantBy, .ref ch, sk_lines, sk_patches])), (b_y, .inl (cB, 290000, .inl S.f)), (ch, .inr (1, [.ref cat, ch_patch, .ref cfA, ch_firstLine, ch_adds, ch_files])), (cat, .inl (cI, 38000, .inl Z.ca)), (cfA, .inl (cI, 38000, .inl Z.cf)), (vnA, .inl (cI, 16800, .inl vn)), (vhA, .inl (cI, 256, .inl (upd hd (bkN S L n1) (nI n1)))), (vxA, .inl (cI, 16800, .inl (upd nx n1 (hd (bkN S L n1))))), (vsA, .inl (cI, 200, .inl sh9))] H := hP
        have hD : va_D A [(h, .inr (11, [vw_files, vw_namingsOf, .ref vnA, vw_fileTotal, vw_namingTotal, .ref sk, .ref ch, vw_loaded, vw_version, vw_over, vw_round, .ref vhA, .ref vxA, .ref vsA])), (sk, .inr (9, [.ref b_y, sk_from, sk_firstDependency, sk_firstChange, sk_dependencies, sk_hashes, sk_byHash, sk_leansOn, sk_leantBy, .ref ch, sk_lines, sk_patches])), (b_y, .inl (cB, 290000, .inl S.f)), (ch, .inr (1, [.ref cat, ch_patch, .ref cfA, ch_firstLine, ch_adds, ch_files])), (cat, .inl (cI, 38000, .inl Z.ca)), (cfA, .inl (cI, 38000, .inl Z.cf)), (vnA, .inl (cI, 16800, .inl vn)), (vhA, .inl (cI, 256, .inl (upd hd (bkN S L n1) (nI n1)))), (vxA, .inl (cI, 16800, .inl (upd nx n1 (hd (bkN S L n1))))), (vsA, .inl (cI, 200, .inl sh9))] := hD
        rw [← hQe]
        exact W.vret hx hb hr (fun t ht hW => ⟨⟨(upd hd (bkN S L n1) (nI n1), upd nx n1 (hd (bkN S L n1)), sh9, kUp K1 (bkN S L n1) n1), rfl, chS.none hcS (fun q z => (hsf q z).elim (fun z9 => by cases z9) id) hbk, by rw [ht]; exact hP, va_K.moved hW.alike hK, hD⟩, hS.F ht⟩) hS.2.2 d_Vw_meet_88
      · have n_24 : st < n1 := Nat.lt_of_not_le (fun z => c_24 ((nI_leI (a := n1) (b := st) (by omega) (by omega)).mpr z))
        refine lv_iload_n hx hb d_Vw_meet_27 rfl (lv_at hl 3 rfl) ?_
        refine lv_iconst (v := (-1)) hx hb d_Vw_meet_28 (by decide) ?_
        refine lv_icmp_eq (tgt := 64) hx hb d_Vw_meet_29 (by decide) (fun c_29 => ?_) (fun c_29 => ?_)
        · obtain rfl : Tp = [] := lk_nil (fun q z => by have := hcb.2.2.2 q (hsu q z); omega) c_29
          have hl : lv_has ls 6 [(0, .ref h), (1, .int (nI n1)), (2, .int (nI (bkN S L n1))), (3, .int (-1)), (4, .int (nI st))] := hl
          refine lv_iload_n hx hb d_Vw_meet_64 rfl (lv_at hl 3 rfl) ?_
          refine lv_iconst (v := (-1)) hx hb d_Vw_meet_65 (by decide) ?_
          refine lv_icmp_ne (tgt := 89) hx hb d_Vw_meet_66 (by decide) (fun c_66 => absurd c_66 (by decide)) (fun _ => ?_)
          refine lv_aload_n hx hb d_Vw_meet_69 rfl (lv_at hl 0 rfl) ?_
          refine va_get (D := (dC, dI)) (ci := 11) (v := .ref vxA) (C := R_Vw) (T := F_Vw) (N := 14) hx hb hts i_Vw hown hK hP 0 rfl rfl 12 (by decide) (hts _ gw_337) (fun _ h9 => h9) rfl d_Vw_meet_70 ?_
          refine lv_iload_n hx hb d_Vw_meet_73 rfl (lv_at hl 1 rfl) ?_
          refine lv_aload_n hx hb d_Vw_meet_74 rfl (lv_at hl 0 rfl) ?_
          refine va_get (D := (dC, dI)) (ci := 11) (v := .ref vhA) (C := R_Vw) (T := F_Vw) (N := 14) hx hb hts i_Vw hown hK hP 0 rfl rfl 11 (by decide) (hts _ gw_336) (fun _ h9 => h9) rfl d_Vw_meet_75 ?_
          refine lv_iload_n hx hb d_Vw_meet_78 rfl (lv_at hl 2 rfl) ?_
          refine va_iald hx hb hK hP 7 0 rfl rfl (vp_in_nI (by omega) (by omega)) d_Vw_meet_79 ?_
          rw [show (nI (bkN S L n1)).toNatClampNeg = (bkN S L n1) from nI_clamp (by omega)]
          refine va_iast hx hb hK hP hD hS 8 0 rfl rfl (vp_in_nI (by omega) (by omega)) d_Vw_meet_80 (fun H locs hP hD hS => ?_)
          rw [show (nI n1).toNatClampNeg = n1 from nI_clamp (by omega)] at hP hD
          have hP : va_P (dC, dI) classes [(h, .inr (11, [vw_files, vw_namingsOf, .ref vnA, vw_fileTotal, vw_namingTotal, .ref sk, .ref ch, vw_loaded, vw_version, vw_over, vw_round, .ref vhA, .ref vxA, .ref vsA])), (sk, .inr (9, [.ref b_y, sk_from, sk_firstDependency, sk_firstChange, sk_dependencies, sk_hashes, sk_byHash, sk_leansOn, sk_leantBy, .ref ch, sk_lines, sk_patches])), (b_y, .inl (cB, 290000, .inl S.f)), (ch, .inr (1, [.ref cat, ch_patch, .ref cfA, ch_firstLine, ch_adds, ch_files])), (cat, .inl (cI, 38000, .inl Z.ca)), (cfA, .inl (cI, 38000, .inl Z.cf)), (vnA, .inl (cI, 16800, .inl vn)), (vhA, .inl (cI, 256, .inl hd)), (vxA, .inl (cI, 16800, .inl (upd nx n1 (hd (bkN S L n1))))), (vsA, .inl (cI, 200, .inl sh9))] H := hP
          have hD : va_D A [(h, .inr (11, [vw_files, vw_namingsOf, .ref vnA, vw_fileTotal, vw_namingTotal, .ref sk, .ref ch, vw_loaded, vw_version, vw_over, vw_round, .ref vhA, .ref vxA, .ref vsA])), (sk, .inr (9, [.ref b_y, sk_from, sk_firstDependency, sk_firstChange, sk_dependencies, sk_hashes, sk_byHash, sk_leansOn, sk_leantBy, .ref ch, sk_lines, sk_patches])), (b_y, .inl (cB, 290000, .inl S.f)), (ch, .inr (1, [.ref cat, ch_patch, .ref cfA, ch_firstLine, ch_adds, ch_files])), (cat, .inl (cI, 38000, .inl Z.ca)), (cfA, .inl (cI, 38000, .inl Z.cf)), (vnA, .inl (cI, 16800, .inl vn)), (vhA, .inl (cI, 256, .inl hd)), (vxA, .inl (cI, 16800, .inl (upd nx n1 (hd (bkN S L n1))))), (vsA, .inl (cI, 200, .inl sh9))] := hD
          refine lv_aload_n hx hb d_Vw_meet_81 rfl (lv_at hl 0 rfl) ?_
          refine va_get (D := (dC, dI)) (ci := 11) (v := .ref vhA) (C := R_Vw) (T := F_Vw) (N := 14) hx hb hts i_Vw hown hK hP 0 rfl rfl 11 (by decide) (hts _ gw_336) (fun _ h9 => h9) rfl d_Vw_meet_82 ?_
          refine lv_iload_n hx hb d_Vw_meet_85 rfl (lv_at hl 2 rfl) ?_
          refine lv_iload_n hx hb d_Vw_meet_86 rfl (lv_at hl 1 rfl) ?_
          refine va_iast hx hb hK hP hD hS 7 0 rfl rfl (vp_in_nI (by omega) (by omega)) d_Vw_meet_87 (fun H locs hP hD hS => ?_)
          rw [show (nI (bkN S L n1)).toNatClampNeg = (bkN S L n1) from nI_clamp (by omega)] at hP hD
          have hP : va_P (dC, dI) classes [(h, .inr (11, [vw_files, vw_namingsOf, .ref vnA, vw_fileTotal, vw_namingTotal, .ref sk, .ref ch, vw_loaded, vw_version, vw_over, vw_round, .ref vhA, .ref vxA, .ref vsA])), (sk, .inr (9, [.ref b_y, sk_from, sk_firstDependency, sk_firstChange, sk_dependencies, sk_hashes, sk_byHash, sk_leansOn, sk_leantBy, .ref ch, sk_lines, sk_patches])), (b_y, .inl (cB, 290000, .inl S.f)), (ch, .inr (1, [.ref cat, ch_patch, .ref cfA, ch_firstLine, ch_adds, ch_files])), (cat, .inl (cI, 38000, .inl Z.ca)), (cfA, .inl (cI, 38000, .inl Z.cf)), (vnA, .inl (cI, 16800, .inl vn)), (vhA, .inl (cI, 256, .inl (upd hd (bkN S L n1) (nI n1)))), (vxA, .inl (cI, 16800, .inl (upd nx n1 (hd (bkN S L n1))))), (vsA, .inl (cI, 200, .inl sh9))] H := hP
          have hD : va_D A [(h, .inr (11, [vw_files, vw_namingsOf, .ref vnA, vw_fileTotal, vw_namingTotal, .ref sk, .ref ch, vw_loaded, vw_version, vw_over, vw_round, .ref vhA, .ref vxA, .ref vsA])), (sk, .inr (9, [.ref b_y, sk_from, sk_firstDependency, sk_firstChange, sk_dependencies, sk_hashes, sk_byHash, sk_leansOn, sk_leantBy, .ref ch, sk_lines, sk_patches])), (b_y, .inl (cB, 290000, .inl S.f)), (ch, .inr (1, [.ref cat, ch_patch, .ref cfA, ch_firstLine, ch_adds, ch_files])), (cat, .inl (cI, 38000, .inl Z.ca)), (cfA, .inl (cI, 38000, .inl Z.cf)), (vnA, .inl (cI, 16800, .inl vn)), (vhA, .inl (cI, 256, .inl (upd hd (bkN S L n1) (nI n1)))), (vxA, .inl (cI, 16800, .inl (upd nx n1 (hd (bkN S L n1))))), (vsA, .inl (cI, 200, .inl sh9))] := hD
          rw [← hQe]
          exact W.vret hx hb hr (fun t ht hW => ⟨⟨(upd hd (bkN S L n1) (nI n1), upd nx n1 (hd (bkN S L n1)), sh9, kUp K1 (bkN S L n1) n1), rfl, chS.none hcS (fun q z => (hsf q z).elim (fun z9 => by cases z9) id) hbk, by rw [ht]; exact hP, va_K.moved hW.alike hK, hD⟩, hS.F ht⟩) hS.2.2 d_Vw_meet_88
        · obtain ⟨k, T1, rfl⟩ := lk_cons c_29
          have hl : lv_has ls 6 [(0, .ref h), (1, .int (nI n1)), (2, .int (nI (bkN S L n1))), (3, .int (nI k)), (4, .int (nI st))] := hl
          have hkm := hsu k (List.mem_cons_self ..)
          have hkn := hcb.2.2.2 k hkm
          have hkL : k < L.length := by omega
          obtain ⟨hkin, hkca, hkcf⟩ := hnm _ (getD_mem hkL)
          have hkcb := hkin.2.1
          have hkc38 := hkin.1
          refine lv_aload_n hx hb d_Vw_meet_32 rfl (lv_at hl 0 rfl) ?_
          refine lv_aload_n hx hb d_Vw_meet_33 rfl (lv_at hl 0 rfl) ?_
          refine va_get (D := (dC, dI)) (ci := 11) (v := .ref vnA) (C := R_Vw) (T := F_Vw) (N := 14) hx hb hts i_Vw hown hK hP 0 rfl rfl 2 (by decide) (hts _ gw_324) (fun _ h9 => h9) rfl d_Vw_meet_34 ?_
          refine lv_iload_n hx hb d_Vw_meet_37 rfl (lv_at hl 3 rfl) ?_
          refine va_iald hx hb hK hP 6 0 rfl rfl (vp_in_nI (by omega) (by omega)) d_Vw_meet_38 ?_
          rw [show (nI k).toNatClampNeg = k from nI_clamp (by omega)]
          refine lv_topi (fun x_3 ex_3 => ?_)
          obtain rfl : x_3 = nI (L.getD k 0) := by rw [ex_3]; first | done | (exact hvn k hkL)
          refine lv_aload_n hx hb d_Vw_meet_39 rfl (lv_at hl 0 rfl) ?_
          refine va_get (D := (dC, dI)) (ci := 11) (v := .ref vnA) (C := R_Vw) (T := F_Vw) (N := 14) hx hb hts i_Vw hown hK hP 0 rfl rfl 2 (by decide) (hts _ gw_324) (fun _ h9 => h9) rfl d_Vw_meet_40 ?_
          refine lv_iload_n hx hb d_Vw_meet_43 rfl (lv_at hl 1 rfl) ?_
          refine va_iald hx hb hK hP 6 0 rfl rfl (vp_in_nI (by omega) (by omega)) d_Vw_meet_44 ?_
          rw [show (nI n1).toNatClampNeg = n1 from nI_clamp (by omega)]
          refine lv_topi (fun x_4 ex_4 => ?_)
          obtain rfl : x_4 = nI (L.getD n1 0) := by rw [ex_4]; first | done | (exact hvn n1 hn1)
          have hPc := hP.sub (ws' := [(h, .inr (11, [vw_files, vw_namingsOf, .ref vnA, vw_fileTotal, vw_namingTotal, .ref sk, .ref ch, vw_loaded, vw_version, vw_over, vw_round, .ref vhA, .ref vxA, .ref vsA])), (sk, .inr (9, [.ref b_y, sk_from, sk_firstDependency, sk_firstChange, sk_dependencies, sk_hashes, sk_byHash, sk_leansOn, sk_leantBy, .ref ch, sk_lines, sk_patches])), (b_y, .inl (cB, 290000, .inl S.f)), (ch, .inr (1, [.ref cat, ch_patch, .ref cfA, ch_firstLine, ch_adds, ch_files])), (cat, .inl (cI, 38000, .inl Z.ca))]) [0, 1, 2, 3, 4] rfl
          have hDc := hD.sub (ws' := [(h, .inr (11, [vw_files, vw_namingsOf, .ref vnA, vw_fileTotal, vw_namingTotal, .ref sk, .ref ch, vw_loaded, vw_version, vw_over, vw_round, .ref vhA, .ref vxA, .ref vsA])), (sk, .inr (9, [.ref b_y, sk_from, sk_firstDependency, sk_firstChange, sk_dependencies, sk_hashes, sk_byHash, sk_leansOn, sk_leantBy, .ref ch, sk_lines, sk_patches])), (b_y, .inl (cB, 290000, .inl S.f)), (ch, .inr (1, [.ref cat, ch_patch, .ref cfA, ch_firstLine, ch_adds, ch_files])), (cat, .inl (cI, 38000, .inl Z.ca))]) [0, 1, 2, 3, 4] (by decide) rfl
          have hFc := va_free (wc := [(h, .inr (11, [vw_files, vw_namingsOf, .ref vnA, vw_fileTotal, vw_namingTotal, .ref sk, .ref ch, vw_loaded, vw_version, vw_over, vw_round, .ref vhA, .ref vxA, .ref vsA])), (sk, .inr (9, [.ref b_y, sk_from, sk_firstDependency, sk_firstChange, sk_dependencies, sk_hashes, sk_byHash, sk_leansOn, sk_leantBy, .ref ch, sk_lines, sk_patches])), (b_y, .inl (cB, 290000, .inl S.f)), (ch, .inr (1, [.ref cat, ch_patch, .ref cfA, ch_firstLine, ch_adds, ch_files])), (cat, .inl (cI, 38000, .inl Z.ca))]) hD hS hA [0, 1, 2, 3, 4] rfl
          refine va_calli (va_runV (As := [.int (nI (L.getD k 0)), .int (nI (L.getD n1 0))]) (rest := []) ⟨hx, hb, hml, hown, hts⟩ (m_Vw_isSameName l dC dI cI cB cL cZ cR h sk b_y ch cat (vw_files) (vw_namingsOf) (.ref vnA) (vw_fileTotal) (vw_namingTotal) (.ref ch) (vw_loaded) (vw_version) (vw_over) (vw_round) (.ref vhA) (.ref vxA) (.ref vsA) (sk_from) (sk_firstDependency) (sk_firstChange) (sk_dependencies) (sk_hashes) (sk_byHash) (sk_leansOn) (sk_leantBy) (sk_lines) (sk_patches) (ch_patch) (.ref cfA) (ch_firstLine) (ch_adds) (ch_files) Z S (L.getD k 0) (L.getD n1 0) H.size hkin hin hkca hica) (cwV 2 hts (xg_V gw_1333 gw_1335 (xg_p 68 (q := (⟨"PatchStore$View", "isSameName", "(II)Z"⟩, 14)) (by decide +kernel)) gw_8 gw_1336) rfl rfl rfl (by decide +kernel) ⟨Nat.le_of_ble_eq_true rfl, Nat.le_of_ble_eq_true rfl⟩) ⟨xw_blind, va_recv hK hPc (ci := 11) (q0 := 0) rfl rfl, fun U hU hW => ⟨rfl, by rw [hU], by rw [hU]; exact hPc, va_K.moved hW.alike hK, hDc.weaken (fun _ _ _ _ => trivial)⟩⟩ rfl rfl hl.1 rfl (lv_room (Nat.le_of_ble_eq_true rfl)) d_Vw_meet_45 ⟨Nat.le_of_ble_eq_true rfl, Nat.le_of_ble_eq_true rfl⟩) hS (fun q _ h => hFc q h) hFc (fun r9 u t H1 locs ht hvm hw hB hz1 hk1 hS => ?_)
          obtain ⟨hP1, hK1, hD1⟩ := hB
          rw [ht] at hP1
          obtain ⟨hP, hD⟩ := va_join (wr := [(cfA, .inl (cI, 38000, .inl Z.cf)), (vnA, .inl (cI, 16800, .inl vn)), (vhA, .inl (cI, 256, .inl hd)), (vxA, .inl (cI, 16800, .inl nx)), (vsA, .inl (cI, 200, .inl sh9))]) (w1 := [(h, .inr (11, [vw_files, vw_namingsOf, .ref vnA, vw_fileTotal, vw_namingTotal, .ref sk, .ref ch, vw_loaded, vw_version, vw_over, vw_round, .ref vhA, .ref vxA, .ref vsA])), (sk, .inr (9, [.ref b_y, sk_from, sk_firstDependency, sk_firstChange, sk_dependencies, sk_hashes, sk_byHash, sk_leansOn, sk_leantBy, .ref ch, sk_lines, sk_patches])), (b_y, .inl (cB, 290000, .inl S.f)), (ch, .inr (1, [.ref cat, ch_patch, .ref cfA, ch_firstLine, ch_adds, ch_files])), (cat, .inl (cI, 38000, .inl Z.ca))]) hP hD [0, 1, 2, 3, 4] [5, 6, 7, 8, 9] rfl rfl (by decide) (by decide) hk1 hFc hP1 hD1
          generalize H1 = H at hP hS ⊢
          have hP : va_P (dC, dI) classes [(cfA, .inl (cI, 38000, .inl Z.cf)), (vnA, .inl (cI, 16800, .inl vn)), (vhA, .inl (cI, 256, .inl hd)), (vxA, .inl (cI, 16800, .inl nx)), (vsA, .inl (cI, 200, .inl sh9)), (h, .inr (11, [vw_files, vw_namingsOf, .ref vnA, vw_fileTotal, vw_namingTotal, .ref sk, .ref ch, vw_loaded, vw_version, vw_over, vw_round, .ref vhA, .ref vxA, .ref vsA])), (sk, .inr (9, [.ref b_y, sk_from, sk_firstDependency, sk_firstChange, sk_dependencies, sk_hashes, sk_byHash, sk_leansOn, sk_leantBy, .ref ch, sk_lines, sk_patches])), (b_y, .inl (cB, 290000, .inl S.f)), (ch, .inr (1, [.ref cat, ch_patch, .ref cfA, ch_firstLine, ch_adds, ch_files])), (cat, .inl (cI, 38000, .inl Z.ca))] H := hP
          have hD : va_D A [(cfA, .inl (cI, 38000, .inl Z.cf)), (vnA, .inl (cI, 16800, .inl vn)), (vhA, .inl (cI, 256, .inl hd)), (vxA, .inl (cI, 16800, .inl nx)), (vsA, .inl (cI, 200, .inl sh9)), (h, .inr (11, [vw_files, vw_namingsOf, .ref vnA, vw_fileTotal, vw_namingTotal, .ref sk, .ref ch, vw_loaded, vw_version, vw_over, vw_round, .ref vhA, .ref vxA, .ref vsA])), (sk, .inr (9, [.ref b_y, sk_from, sk_firstDependency, sk_firstChange, sk_dependencies, sk_hashes, sk_byHash, sk_leansOn, sk_leantBy, .ref ch, sk_lines, sk_patches])), (b_y, .inl (cB, 290000, .inl S.f)), (ch, .inr (1, [.ref cat, ch_patch, .ref cfA, ch_firstLine, ch_adds, ch_files])), (cat, .inl (cI, 38000, .inl Z.ca))] := hD
          rcases hw with ⟨rfl, hsm⟩ | ⟨rfl, hsm⟩
          · have hP : va_P (dC, dI) classes [(cfA, .inl (cI, 38000, .inl Z.cf)), (vnA, .inl (cI, 16800, .inl vn)), (vhA, .inl (cI, 256, .inl hd)), (vxA, .inl (cI, 16800, .inl nx)), (vsA, .inl (cI, 200, .inl sh9)), (h, .inr (11, [vw_files, vw_namingsOf, .ref vnA, vw_fileTotal, vw_namingTotal, .ref sk, .ref ch, vw_loaded, vw_version, vw_over, vw_round, .ref vhA, .ref vxA, .ref vsA])), (sk, .inr (9, [.ref b_y, sk_from, sk_firstDependency, sk_firstChange, sk_dependencies, sk_hashes, sk_byHash, sk_leansOn, sk_leantBy, .ref ch, sk_lines, sk_patches])), (b_y, .inl (cB, 290000, .inl S.f)), (ch, .inr (1, [.ref cat, ch_patch, .ref cfA, ch_firstLine, ch_adds, ch_files])), (cat, .inl (cI, 38000, .inl Z.ca))] H := hP
            have hD : va_D A [(cfA, .inl (cI, 38000, .inl Z.cf)), (vnA, .inl (cI, 16800, .inl vn)), (vhA, .inl (cI, 256, .inl hd)), (vxA, .inl (cI, 16800, .inl nx)), (vsA, .inl (cI, 200, .inl sh9)), (h, .inr (11, [vw_files, vw_namingsOf, .ref vnA, vw_fileTotal, vw_namingTotal, .ref sk, .ref ch, vw_loaded, vw_version, vw_over, vw_round, .ref vhA, .ref vxA, .ref vsA])), (sk, .inr (9, [.ref b_y, sk_from, sk_firstDependency, sk_firstChange, sk_dependencies, sk_hashes, sk_byHash, sk_leansOn, sk_leantBy, .ref ch, sk_lines, sk_patches])), (b_y, .inl (cB, 290000, .inl S.f)), (ch, .inr (1, [.ref cat, ch_patch, .ref cfA, ch_firstLine, ch_adds, ch_files])), (cat, .inl (cI, 38000, .inl Z.ca))] := hD
            have hsm : smN S L k n1 := hsm
            refine lv_if_ne (tgt := 64) hx hb d_Vw_meet_48 (by decide) (fun _ => ?_) (fun c_48 => absurd c_48 (by decide))
            refine lv_iload_n hx hb d_Vw_meet_64 rfl (lv_at hl 3 rfl) ?_
            refine lv_iconst (v := (-1)) hx hb d_Vw_meet_65 (by decide) ?_
            refine lv_icmp_ne (tgt := 89) hx hb d_Vw_meet_66 (by decide) (fun _ => ?_) (fun c_66 => absurd c_66 (fun z => nI_nm1 (by omega) z.symm))
            refine lv_aload_n hx hb d_Vw_meet_89 rfl (lv_at hl 0 rfl) ?_
            refine va_get (D := (dC, dI)) (ci := 11) (v := .ref ch) (C := R_Vw) (T := F_Vw) (N := 14) hx hb hts i_Vw hown hK hP 5 rfl rfl 6 (by decide) (hts _ gw_331) (fun _ h9 => h9) rfl d_Vw_meet_90 ?_
            refine va_get (D := (dC, dI)) (ci := 1) (v := .ref cfA) (C := R_Ch) (T := F_Ch) (N := 6) hx hb hts i_Ch hown hK hP 8 rfl rfl 2 (by decide) (hts _ gw_100) (fun _ h9 => h9) rfl d_Vw_meet_93 ?_
            refine lv_aload_n hx hb d_Vw_meet_96 rfl (lv_at hl 0 rfl) ?_
            refine va_get (D := (dC, dI)) (ci := 11) (v := .ref vnA) (C := R_Vw) (T := F_Vw) (N := 14) hx hb hts i_Vw hown hK hP 5 rfl rfl 2 (by decide) (hts _ gw_324) (fun _ h9 => h9) rfl d_Vw_meet_97 ?_
            refine lv_iload_n hx hb d_Vw_meet_100 rfl (lv_at hl 1 rfl) ?_
            refine va_iald hx hb hK hP 1 0 rfl rfl (vp_in_nI (by omega) (by omega)) d_Vw_meet_101 ?_
            rw [show (nI n1).toNatClampNeg = n1 from nI_clamp (by omega)]
            refine lv_topi (fun x_5 ex_5 => ?_)
            obtain rfl : x_5 = nI (L.getD n1 0) := by rw [ex_5]; first | done | (exact hvn n1 hn1)
            refine va_iald hx hb hK hP 0 0 rfl rfl (vp_in_nI (by omega) (by omega)) d_Vw_meet_102 ?_
            rw [show (nI (L.getD n1 0)).toNatClampNeg = (L.getD n1 0) from nI_clamp (by omega)]
            refine lv_topi (fun x_6 ex_6 => ?_)
            obtain rfl : x_6 = nI (S.CF (L.getD n1 0)) := by rw [ex_6]; first | done | (exact hicf)
            refine lv_istore (lv' := [(4, .int (nI (S.CF (L.getD n1 0)))), (0, .ref h), (1, .int (nI n1)), (2, .int (nI (bkN S L n1))), (3, .int (nI k))]) hx hb d_Vw_meet_103 hl (by decide) rfl (fun ls hl => ?_)
            refine lv_aload_n hx hb d_Vw_meet_105 rfl (lv_at hl 1 rfl) ?_
            refine va_get (D := (dC, dI)) (ci := 11) (v := .ref ch) (C := R_Vw) (T := F_Vw) (N := 14) hx hb hts i_Vw hown hK hP 5 rfl rfl 6 (by decide) (hts _ gw_331) (fun _ h9 => h9) rfl d_Vw_meet_106 ?_
            refine va_get (D := (dC, dI)) (ci := 1) (v := .ref cfA) (C := R_Ch) (T := F_Ch) (N := 6) hx hb hts i_Ch hown hK hP 8 rfl rfl 2 (by decide) (hts _ gw_100) (fun _ h9 => h9) rfl d_Vw_meet_109 ?_
            refine lv_aload_n hx hb d_Vw_meet_112 rfl (lv_at hl 1 rfl) ?_
            refine va_get (D := (dC, dI)) (ci := 11) (v := .ref vnA) (C := R_Vw) (T := F_Vw) (N := 14) hx hb hts i_Vw hown hK hP 5 rfl rfl 2 (by decide) (hts _ gw_324) (fun _ h9 => h9) rfl d_Vw_meet_113 ?_
            refine lv_iload_n hx hb d_Vw_meet_116 rfl (lv_at hl 4 rfl) ?_
            refine va_iald hx hb hK hP 1 0 rfl rfl (vp_in_nI (by omega) (by omega)) d_Vw_meet_117 ?_
            rw [show (nI k).toNatClampNeg = k from nI_clamp (by omega)]
            refine lv_topi (fun x_7 ex_7 => ?_)
            obtain rfl : x_7 = nI (L.getD k 0) := by rw [ex_7]; first | done | (exact hvn k hkL)
            refine va_iald hx hb hK hP 0 0 rfl rfl (vp_in_nI (by omega) (by omega)) d_Vw_meet_118 ?_
            rw [show (nI (L.getD k 0)).toNatClampNeg = (L.getD k 0) from nI_clamp (by omega)]
            refine lv_topi (fun x_8 ex_8 => ?_)
            obtain rfl : x_8 = nI (S.CF (L.getD k 0)) := by rw [ex_8]; first | done | (exact hkcf)
            refine lv_istore (lv' := [(5, .int (nI (S.CF (L.getD k 0)))), (4, .int (nI (S.CF (L.getD n1 0)))), (0, .ref h), (1, .int (nI n1)), (2, .int (nI (bkN S L n1))), (3, .int (nI k))]) hx hb d_Vw_meet_119 hl (by decide) rfl (fun ls hl => ?_)
            refine lv_iload hx hb d_Vw_meet_121 (lv_at hl 1 rfl) ?_
            refine lv_iload hx hb d_Vw_meet_123 (lv_at hl 0 rfl) ?_
            refine lv_icmp_eq (tgt := 144) hx hb d_Vw_meet_125 (by decide) (fun c_125 => ?_) (fun c_125 => ?_)
            · have n_125 : (S.CF (L.getD n1 0)) = (S.CF (L.getD k 0)) := (nI_eq (a := (S.CF (L.getD n1 0))) (b := (S.CF (L.getD k 0))) (by omega) (by omega)).mp c_125
              have hP := hP.sub (ws' := [(h, .inr (11, [vw_files, vw_namingsOf, .ref vnA, vw_fileTotal, vw_namingTotal, .ref sk, .ref ch, vw_loaded, vw_version, vw_over, vw_round, .ref vhA, .ref vxA, .ref vsA])), (sk, .inr (9, [.ref b_y, sk_from, sk_firstDependency, sk_firstChange, sk_dependencies, sk_hashes, sk_byHash, sk_leansOn, sk_leantBy, .ref ch, sk_lines, sk_patches])), (b_y, .inl (cB, 290000, .inl S.f)), (ch, .inr (1, [.ref cat, ch_patch, .ref cfA, ch_firstLine, ch_adds, ch_files])), (cat, .inl (cI, 38000, .inl Z.ca)), (cfA, .inl (cI, 38000, .inl Z.cf)), (vnA, .inl (cI, 16800, .inl vn)), (vhA, .inl (cI, 256, .inl hd)), (vxA, .inl (cI, 16800, .inl nx)), (vsA, .inl (cI, 200, .inl sh9))]) [5, 6, 7, 8, 9, 0, 1, 2, 3, 4] rfl
              have hD := hD.sub (ws' := [(h, .inr (11, [vw_files, vw_namingsOf, .ref vnA, vw_fileTotal, vw_namingTotal, .ref sk, .ref ch, vw_loaded, vw_version, vw_over, vw_round, .ref vhA, .ref vxA, .ref vsA])), (sk, .inr (9, [.ref b_y, sk_from, sk_firstDependency, sk_firstChange, sk_dependencies, sk_hashes, sk_byHash, sk_leansOn, sk_leantBy, .ref ch, sk_lines, sk_patches])), (b_y, .inl (cB, 290000, .inl S.f)), (ch, .inr (1, [.ref cat, ch_patch, .ref cfA, ch_firstLine, ch_adds, ch_files])), (cat, .inl (cI, 38000, .inl Z.ca)), (cfA, .inl (cI, 38000, .inl Z.cf)), (vnA, .inl (cI, 16800, .inl vn)), (vhA, .inl (cI, 256, .inl hd)), (vxA, .inl (cI, 16800, .inl nx)), (vsA, .inl (cI, 200, .inl sh9))]) [5, 6, 7, 8, 9, 0, 1, 2, 3, 4] (by decide) rfl
              rw [← hQe]
              exact W.vret hx hb hr (fun t ht hW => ⟨⟨(hd, nx, sh9, K1), rfl, chS.some hcS hkm hbk hsm (Or.inl ⟨n_125, rfl⟩), by rw [ht]; exact hP, va_K.moved hW.alike hK, hD⟩, hS.F ht⟩) hS.2.2 d_Vw_meet_144
            · have n_125 : ¬ (S.CF (L.getD n1 0)) = (S.CF (L.getD k 0)) := fun z => c_125 ((nI_eq (a := (S.CF (L.getD n1 0))) (b := (S.CF (L.getD k 0))) (by omega) (by omega)).mpr z)
              refine lv_aload_n hx hb d_Vw_meet_128 rfl (lv_at hl 2 rfl) ?_
              refine va_get (D := (dC, dI)) (ci := 11) (v := .ref vsA) (C := R_Vw) (T := F_Vw) (N := 14) hx hb hts i_Vw hown hK hP 5 rfl rfl 13 (by decide) (hts _ gw_338) (fun _ h9 => h9) rfl d_Vw_meet_129 ?_
              refine lv_iload hx hb d_Vw_meet_132 (lv_at hl 1 rfl) ?_
              refine lv_iconst (v := 1) hx hb d_Vw_meet_134 (by decide) ?_
              refine va_iast hx hb hK hP hD hS 4 0 rfl rfl (vp_in_nI (by omega) (by omega)) d_Vw_meet_135 (fun H locs hP hD hS => ?_)
              rw [show (nI (S.CF (L.getD n1 0))).toNatClampNeg = (S.CF (L.getD n1 0)) from nI_clamp (by omega)] at hP hD
              have hP : va_P (dC, dI) classes [(cfA, .inl (cI, 38000, .inl Z.cf)), (vnA, .inl (cI, 16800, .inl vn)), (vhA, .inl (cI, 256, .inl hd)), (vxA, .inl (cI, 16800, .inl nx)), (vsA, .inl (cI, 200, .inl (upd sh9 (S.CF (L.getD n1 0)) 1))), (h, .inr (11, [vw_files, vw_namingsOf, .ref vnA, vw_fileTotal, vw_namingTotal, .ref sk, .ref ch, vw_loaded, vw_version, vw_over, vw_round, .ref vhA, .ref vxA, .ref vsA])), (sk, .inr (9, [.ref b_y, sk_from, sk_firstDependency, sk_firstChange, sk_dependencies, sk_hashes, sk_byHash, sk_leansOn, sk_leantBy, .ref ch, sk_lines, sk_patches])), (b_y, .inl (cB, 290000, .inl S.f)), (ch, .inr (1, [.ref cat, ch_patch, .ref cfA, ch_firstLine, ch_adds, ch_files])), (cat, .inl (cI, 38000, .inl Z.ca))] H := hP
              have hD : va_D A [(cfA, .inl (cI, 38000, .inl Z.cf)), (vnA, .inl (cI, 16800, .inl vn)), (vhA, .inl (cI, 256, .inl hd)), (vxA, .inl (cI, 16800, .inl nx)), (vsA, .inl (cI, 200, .inl (upd sh9 (S.CF (L.getD n1 0)) 1))), (h, .inr (11, [vw_files, vw_namingsOf, .ref vnA, vw_fileTotal, vw_namingTotal, .ref sk, .ref ch, vw_loaded, vw_version, vw_over, vw_round, .ref vhA, .ref vxA, .ref vsA])), (sk, .inr (9, [.ref b_y, sk_from, sk_firstDependency, sk_firstChange, sk_dependencies, sk_hashes, sk_byHash, sk_leansOn, sk_leantBy, .ref ch, sk_lines, sk_patches])), (b_y, .inl (cB, 290000, .inl S.f)), (ch, .inr (1, [.ref cat, ch_patch, .ref cfA, ch_firstLine, ch_adds, ch_files])), (cat, .inl (cI, 38000, .inl Z.ca))] := hD
              refine lv_aload_n hx hb d_Vw_meet_136 rfl (lv_at hl 2 rfl) ?_
              refine va_get (D := (dC, dI)) (ci := 11) (v := .ref vsA) (C := R_Vw) (T := F_Vw) (N := 14) hx hb hts i_Vw hown hK hP 5 rfl rfl 13 (by decide) (hts _ gw_338) (fun _ h9 => h9) rfl d_Vw_meet_137 ?_
              refine lv_iload hx hb d_Vw_meet_140 (lv_at hl 0 rfl) ?_
              refine lv_iconst (v := 1) hx hb d_Vw_meet_142 (by decide) ?_
              refine va_iast hx hb hK hP hD hS 4 0 rfl rfl (vp_in_nI (by omega) (by omega)) d_Vw_meet_143 (fun H locs hP hD hS => ?_)
              rw [show (nI (S.CF (L.getD k 0))).toNatClampNeg = (S.CF (L.getD k 0)) from nI_clamp (by omega)] at hP hD
              have hP : va_P (dC, dI) classes [(cfA, .inl (cI, 38000, .inl Z.cf)), (vnA, .inl (cI, 16800, .inl vn)), (vhA, .inl (cI, 256, .inl hd)), (vxA, .inl (cI, 16800, .inl nx)), (vsA, .inl (cI, 200, .inl (upd (upd sh9 (S.CF (L.getD n1 0)) 1) (S.CF (L.getD k 0)) 1))), (h, .inr (11, [vw_files, vw_namingsOf, .ref vnA, vw_fileTotal, vw_namingTotal, .ref sk, .ref ch, vw_loaded, vw_version, vw_over, vw_round, .ref vhA, .ref vxA, .ref vsA])), (sk, .inr (9, [.ref b_y, sk_from, sk_firstDependency, sk_firstChange, sk_dependencies, sk_hashes, sk_byHash, sk_leansOn, sk_leantBy, .ref ch, sk_lines, sk_patches])), (b_y, .inl (cB, 290000, .inl S.f)), (ch, .inr (1, [.ref cat, ch_patch, .ref cfA, ch_firstLine, ch_adds, ch_files])), (cat, .inl (cI, 38000, .inl Z.ca))] H := hP
              have hD : va_D A [(cfA, .inl (cI, 38000, .inl Z.cf)), (vnA, .inl (cI, 16800, .inl vn)), (vhA, .inl (cI, 256, .inl hd)), (vxA, .inl (cI, 16800, .inl nx)), (vsA, .inl (cI, 200, .inl (upd (upd sh9 (S.CF (L.getD n1 0)) 1) (S.CF (L.getD k 0)) 1))), (h, .inr (11, [vw_files, vw_namingsOf, .ref vnA, vw_fileTotal, vw_namingTotal, .ref sk, .ref ch, vw_loaded, vw_version, vw_over, vw_round, .ref vhA, .ref vxA, .ref vsA])), (sk, .inr (9, [.ref b_y, sk_from, sk_firstDependency, sk_firstChange, sk_dependencies, sk_hashes, sk_byHash, sk_leansOn, sk_leantBy, .ref ch, sk_lines, sk_patches])), (b_y, .inl (cB, 290000, .inl S.f)), (ch, .inr (1, [.ref cat, ch_patch, .ref cfA, ch_firstLine, ch_adds, ch_files])), (cat, .inl (cI, 38000, .inl Z.ca))] := hD
              have hP := hP.sub (ws' := [(h, .inr (11, [vw_files, vw_namingsOf, .ref vnA, vw_fileTotal, vw_namingTotal, .ref sk, .ref ch, vw_loaded, vw_version, vw_over, vw_round, .ref vhA, .ref vxA, .ref vsA])), (sk, .inr (9, [.ref b_y, sk_from, sk_firstDependency, sk_firstChange, sk_dependencies, sk_hashes, sk_byHash, sk_leansOn, sk_leantBy, .ref ch, sk_lines, sk_patches])), (b_y, .inl (cB, 290000, .inl S.f)), (ch, .inr (1, [.ref cat, ch_patch, .ref cfA, ch_firstLine, ch_adds, ch_files])), (cat, .inl (cI, 38000, .inl Z.ca)), (cfA, .inl (cI, 38000, .inl Z.cf)), (vnA, .inl (cI, 16800, .inl vn)), (vhA, .inl (cI, 256, .inl hd)), (vxA, .inl (cI, 16800, .inl nx)), (vsA, .inl (cI, 200, .inl (upd (upd sh9 (S.CF (L.getD n1 0)) 1) (S.CF (L.getD k 0)) 1)))]) [5, 6, 7, 8, 9, 0, 1, 2, 3, 4] rfl
              have hD := hD.sub (ws' := [(h, .inr (11, [vw_files, vw_namingsOf, .ref vnA, vw_fileTotal, vw_namingTotal, .ref sk, .ref ch, vw_loaded, vw_version, vw_over, vw_round, .ref vhA, .ref vxA, .ref vsA])), (sk, .inr (9, [.ref b_y, sk_from, sk_firstDependency, sk_firstChange, sk_dependencies, sk_hashes, sk_byHash, sk_leansOn, sk_leantBy, .ref ch, sk_lines, sk_patches])), (b_y, .inl (cB, 290000, .inl S.f)), (ch, .inr (1, [.ref cat, ch_patch, .ref cfA, ch_firstLine, ch_adds, ch_files])), (cat, .inl (cI, 38000, .inl Z.ca)), (cfA, .inl (cI, 38000, .inl Z.cf)), (vnA, .inl (cI, 16800, .inl vn)), (vhA, .inl (cI, 256, .inl hd)), (vxA, .inl (cI, 16800, .inl nx)), (vsA, .inl (cI, 200, .inl (upd (upd sh9 (S.CF (L.getD n1 0)) 1) (S.CF (L.getD k 0)) 1)))]) [5, 6, 7, 8, 9, 0, 1, 2, 3, 4] (by decide) rfl
              rw [← hQe]
              exact W.vret hx hb hr (fun t ht hW => ⟨⟨(hd, nx, upd (upd sh9 (S.CF (L.getD n1 0)) 1) (S.CF (L.getD k 0)) 1, K1), rfl, chS.some hcS hkm hbk hsm (Or.inr ⟨n_125, rfl⟩), by rw [ht]; exact hP, va_K.moved hW.alike hK, hD⟩, hS.F ht⟩) hS.2.2 d_Vw_meet_144
          · have hP : va_P (dC, dI) classes [(cfA, .inl (cI, 38000, .inl Z.cf)), (vnA, .inl (cI, 16800, .inl vn)), (vhA, .inl (cI, 256, .inl hd)), (vxA, .inl (cI, 16800, .inl nx)), (vsA, .inl (cI, 200, .inl sh9)), (h, .inr (11, [vw_files, vw_namingsOf, .ref vnA, vw_fileTotal, vw_namingTotal, .ref sk, .ref ch, vw_loaded, vw_version, vw_over, vw_round, .ref vhA, .ref vxA, .ref vsA])), (sk, .inr (9, [.ref b_y, sk_from, sk_firstDependency, sk_firstChange, sk_dependencies, sk_hashes, sk_byHash, sk_leansOn, sk_leantBy, .ref ch, sk_lines, sk_patches])), (b_y, .inl (cB, 290000, .inl S.f)), (ch, .inr (1, [.ref cat, ch_patch, .ref cfA, ch_firstLine, ch_adds, ch_files])), (cat, .inl (cI, 38000, .inl Z.ca))] H := hP
            have hD : va_D A [(cfA, .inl (cI, 38000, .inl Z.cf)), (vnA, .inl (cI, 16800, .inl vn)), (vhA, .inl (cI, 256, .inl hd)), (vxA, .inl (cI, 16800, .inl nx)), (vsA, .inl (cI, 200, .inl sh9)), (h, .inr (11, [vw_files, vw_namingsOf, .ref vnA, vw_fileTotal, vw_namingTotal, .ref sk, .ref ch, vw_loaded, vw_version, vw_over, vw_round, .ref vhA, .ref vxA, .ref vsA])), (sk, .inr (9, [.ref b_y, sk_from, sk_firstDependency, sk_firstChange, sk_dependencies, sk_hashes, sk_byHash, sk_leansOn, sk_leantBy, .ref ch, sk_lines, sk_patches])), (b_y, .inl (cB, 290000, .inl S.f)), (ch, .inr (1, [.ref cat, ch_patch, .ref cfA, ch_firstLine, ch_adds, ch_files])), (cat, .inl (cI, 38000, .inl Z.ca))] := hD
            have hnsm : ¬ smN S L k n1 := hsm
            refine lv_if_ne (tgt := 64) hx hb d_Vw_meet_48 (by decide) (fun c_48 => absurd c_48 (by decide)) (fun _ => ?_)
            refine lv_aload_n hx hb d_Vw_meet_51 rfl (lv_at hl 0 rfl) ?_
            refine va_get (D := (dC, dI)) (ci := 11) (v := .ref vxA) (C := R_Vw) (T := F_Vw) (N := 14) hx hb hts i_Vw hown hK hP 5 rfl rfl 12 (by decide) (hts _ gw_337) (fun _ h9 => h9) rfl d_Vw_meet_52 ?_
            refine lv_iload_n hx hb d_Vw_meet_55 rfl (lv_at hl 3 rfl) ?_
            refine va_iald hx hb hK hP 3 0 rfl rfl (vp_in_nI (by omega) (by omega)) d_Vw_meet_56 ?_
            rw [show (nI k).toNatClampNeg = k from nI_clamp (by omega)]
            refine lv_topi (fun x_9 ex_9 => ?_)
            obtain rfl : x_9 = lk T1 := by rw [ex_9]; first | done | (exact hck.1)
            refine lv_istore_n (lv' := [(3, .int (lk T1)), (0, .ref h), (1, .int (nI n1)), (2, .int (nI (bkN S L n1))), (4, .int (nI st))]) hx hb d_Vw_meet_57 rfl hl (by decide) rfl (fun ls hl => ?_)
            refine lv_iinc (v := nI (st + 1)) (lv' := [(4, .int (nI (st + 1))), (3, .int (lk T1)), (0, .ref h), (1, .int (nI n1)), (2, .int (nI (bkN S L n1)))]) hx hb d_Vw_meet_58 hl (k := 4) rfl (by exact nI_add _ _) (by decide) rfl (fun ls hl => ?_)
            refine lv_goto (tgt := 21) hx hb d_Vw_meet_61 (by decide) ?_
            exact ih_21 (st + 1) T1 _ _ _ (by omega) (by simp only [List.length_cons] at hst; omega) (fun q z => (hsf q z).elim (fun z9 => (List.mem_cons.mp z9).elim (fun e9 => Or.inr (e9 ▸ hnsm)) Or.inl) Or.inr) (fun q z => hsu q (List.mem_cons_of_mem _ z)) (hck.2) (hP.sub [5, 6, 7, 8, 9, 0, 1, 2, 3, 4] rfl) (hD.sub [5, 6, 7, 8, 9, 0, 1, 2, 3, 4] (by decide) rfl) hS (lv_sub hl [2, 3, 4, 1, 0] rfl)
  exact loop_21 _ 0 (K1 (bkN S L n1)) _ _ _ (Nat.lt_succ_self _) (by rw [Nat.zero_add]; exact hcb.2.2.1) (fun k z => Or.inl z) (fun k z => z) (hcb.2.1) (hP.sub [5, 6, 7, 8, 9, 0, 1, 2, 3, 4] rfl) (hD.sub [5, 6, 7, 8, 9, 0, 1, 2, 3, 4] (by decide) rfl) hS (lv_sub hl [3, 4, 2, 1, 0] rfl)
