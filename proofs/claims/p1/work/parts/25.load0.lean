/-! 25.load0.lean.txt -/
theorem gw_22 : (Jvm.Cond.initialized "java/util/Arrays") ∈ xg_1 := xg_s1 22 rfl rfl
theorem gw_236 : (Jvm.Cond.fieldLink "PatchStore$View" (59 : Nat) "PatchStore$Stock" "patches" "I") ∈ xg_1 := xg_s1 236 rfl rfl
theorem gw_326 : (Jvm.Cond.fieldLink "PatchStore$View" (79 : Nat) "PatchStore$View" "fileTotal" "I") ∈ xg_1 := xg_s2 86 rfl rfl
theorem gw_327 : (Jvm.Cond.fieldLink "PatchStore" (214 : Nat) "PatchStore$View" "fileTotal" "I") ∈ xg_1 := xg_s2 87 rfl rfl
theorem gw_328 : (Jvm.Cond.fieldLink "PatchStore$View" (76 : Nat) "PatchStore$View" "namingTotal" "I") ∈ xg_1 := xg_s2 88 rfl rfl
theorem gw_332 : (Jvm.Cond.fieldLink "PatchStore$View" (45 : Nat) "PatchStore$View" "loaded" "LPatchStore$Repository;") ∈ xg_1 := xg_s2 92 rfl rfl
theorem gw_333 : (Jvm.Cond.fieldLink "PatchStore$View" (49 : Nat) "PatchStore$View" "version" "I") ∈ xg_1 := xg_s2 93 rfl rfl
theorem gw_335 : (Jvm.Cond.fieldLink "PatchStore$View" (56 : Nat) "PatchStore$View" "round" "I") ∈ xg_1 := xg_s2 95 rfl rfl
theorem gw_533 : (Jvm.Cond.fieldLink "PatchStore$View" (53 : Nat) "PatchStore$Repository" "version" "I") ∈ xg_1 := xg_s3 53 rfl rfl
theorem gw_735 : (Jvm.Cond.static ({ cls := "java/util/Arrays", name := "fill", desc := "([II)V" } : Jvm.MethodName)) ∈ xg_1 := xg_s4 15 rfl rfl
theorem gw_736 : (Jvm.Cond.code ({ cls := "java/util/Arrays", name := "fill", desc := "([II)V" } : Jvm.MethodName) prog_36_method_103_code (4 : Nat) (Option.none : Option Jvm.ClassFile.FieldType)) ∈ xg_1 := xg_s4 16 rfl rfl
theorem gw_995 : (Jvm.Cond.methodLink "PatchStore" (211 : Nat) ({ cls := "PatchStore$View", name := "load", desc := "(LPatchStore$Repository;)V" } : Jvm.MethodName)) ∈ xg_1 := xg_s5 35 rfl rfl
theorem gw_996 : (Jvm.Cond.instanceMethod ({ cls := "PatchStore$View", name := "load", desc := "(LPatchStore$Repository;)V" } : Jvm.MethodName)) ∈ xg_1 := xg_s5 36 rfl rfl
theorem gw_997 : (Jvm.Cond.selects "PatchStore$View" ({ cls := "PatchStore$View", name := "load", desc := "(LPatchStore$Repository;)V" } : Jvm.MethodName) ({ cls := "PatchStore$View", name := "load", desc := "(LPatchStore$Repository;)V" } : Jvm.MethodName)) ∈ xg_1 := xg_s5 37 rfl rfl
theorem gw_998 : (Jvm.Cond.code ({ cls := "PatchStore$View", name := "load", desc := "(LPatchStore$Repository;)V" } : Jvm.MethodName) prog_12_method_2_code (3 : Nat) (Option.none : Option Jvm.ClassFile.FieldType)) ∈ xg_1 := xg_s5 38 rfl rfl
theorem gw_1006 : (Jvm.Cond.methodLink "PatchStore$View" (70 : Nat) ({ cls := "java/util/Arrays", name := "fill", desc := "([II)V" } : Jvm.MethodName)) ∈ xg_1 := xg_s5 46 rfl rfl
theorem gw_1012 : (Jvm.Cond.methodLink "PatchStore$View" (88 : Nat) ({ cls := "PatchStore$View", name := "leaveOutNameless", desc := "()V" } : Jvm.MethodName)) ∈ xg_1 := xg_s5 52 rfl rfl
theorem gw_1014 : (Jvm.Cond.instanceMethod ({ cls := "PatchStore$View", name := "leaveOutNameless", desc := "()V" } : Jvm.MethodName)) ∈ xg_1 := xg_s5 54 rfl rfl
theorem gw_1015 : (Jvm.Cond.code ({ cls := "PatchStore$View", name := "leaveOutNameless", desc := "()V" } : Jvm.MethodName) prog_12_method_5_code (3 : Nat) (Option.none : Option Jvm.ClassFile.FieldType)) ∈ xg_1 := xg_s5 55 rfl rfl
def y_Ar_fill0 : MethodName := ⟨"java/util/Arrays", "fill", "([II)V"⟩
abbrev c_Ar_fill0 : Cond := (Jvm.Cond.code ({ cls := "java/util/Arrays", name := "fill", desc := "([II)V" } : Jvm.MethodName) prog_36_method_103_code (4 : Nat) (Option.none : Option Jvm.ClassFile.FieldType))
abbrev ws_Ar_fill0 : List Cond := c_Ar_fill0 :: xg_1
theorem d_Ar_fill0_0 : decode prog_36_method_103_code 0 = .ok (.iconst 0, 1) := by decide +kernel
theorem d_Ar_fill0_1 : decode prog_36_method_103_code 1 = .ok (.istore_n 2, 1) := by decide +kernel
theorem d_Ar_fill0_2 : decode prog_36_method_103_code 2 = .ok (.aload_n 0, 1) := by decide +kernel
theorem d_Ar_fill0_3 : decode prog_36_method_103_code 3 = .ok (.arraylength, 1) := by decide +kernel
theorem d_Ar_fill0_4 : decode prog_36_method_103_code 4 = .ok (.istore_n 3, 1) := by decide +kernel
theorem d_Ar_fill0_5 : decode prog_36_method_103_code 5 = .ok (.iload_n 2, 1) := by decide +kernel
theorem d_Ar_fill0_6 : decode prog_36_method_103_code 6 = .ok (.iload_n 3, 1) := by decide +kernel
theorem d_Ar_fill0_7 : decode prog_36_method_103_code 7 = .ok (.if_icmp .ge 13, 3) := by decide +kernel
theorem d_Ar_fill0_10 : decode prog_36_method_103_code 10 = .ok (.aload_n 0, 1) := by decide +kernel
theorem d_Ar_fill0_11 : decode prog_36_method_103_code 11 = .ok (.iload_n 2, 1) := by decide +kernel
theorem d_Ar_fill0_12 : decode prog_36_method_103_code 12 = .ok (.iload_n 1, 1) := by decide +kernel
theorem d_Ar_fill0_13 : decode prog_36_method_103_code 13 = .ok (.iastore, 1) := by decide +kernel
theorem d_Ar_fill0_14 : decode prog_36_method_103_code 14 = .ok (.iinc 2 1, 3) := by decide +kernel
theorem d_Ar_fill0_17 : decode prog_36_method_103_code 17 = .ok (.goto (-12), 3) := by decide +kernel
theorem d_Ar_fill0_20 : decode prog_36_method_103_code 20 = .ok (.return_, 1) := by decide +kernel
def y_Vw_leaveOutNameless : MethodName := ⟨"PatchStore$View", "leaveOutNameless", "()V"⟩
abbrev c_Vw_leaveOutNameless : Cond := (Jvm.Cond.code ({ cls := "PatchStore$View", name := "leaveOutNameless", desc := "()V" } : Jvm.MethodName) prog_12_method_5_code (3 : Nat) (Option.none : Option Jvm.ClassFile.FieldType))
abbrev ws_Vw_leaveOutNameless : List Cond := c_Vw_leaveOutNameless :: xg_1
theorem d_Vw_leaveOutNameless_0 : decode prog_12_method_5_code 0 = .ok (.iconst 0, 1) := by decide +kernel
theorem d_Vw_leaveOutNameless_1 : decode prog_12_method_5_code 1 = .ok (.istore_n 1, 1) := by decide +kernel
theorem d_Vw_leaveOutNameless_2 : decode prog_12_method_5_code 2 = .ok (.iconst 0, 1) := by decide +kernel
theorem d_Vw_leaveOutNameless_3 : decode prog_12_method_5_code 3 = .ok (.istore_n 2, 1) := by decide +kernel
theorem d_Vw_leaveOutNameless_4 : decode prog_12_method_5_code 4 = .ok (.iload_n 2, 1) := by decide +kernel
theorem d_Vw_leaveOutNameless_5 : decode prog_12_method_5_code 5 = .ok (.aload_n 0, 1) := by decide +kernel
theorem d_Vw_leaveOutNameless_6 : decode prog_12_method_5_code 6 = .ok (.getfield 79, 3) := by decide +kernel
theorem d_Vw_leaveOutNameless_9 : decode prog_12_method_5_code 9 = .ok (.if_icmp .ge 38, 3) := by decide +kernel
theorem d_Vw_leaveOutNameless_12 : decode prog_12_method_5_code 12 = .ok (.aload_n 0, 1) := by decide +kernel
theorem d_Vw_leaveOutNameless_13 : decode prog_12_method_5_code 13 = .ok (.getfield 15, 3) := by decide +kernel
theorem d_Vw_leaveOutNameless_16 : decode prog_12_method_5_code 16 = .ok (.aload_n 0, 1) := by decide +kernel
theorem d_Vw_leaveOutNameless_17 : decode prog_12_method_5_code 17 = .ok (.getfield 9, 3) := by decide +kernel
theorem d_Vw_leaveOutNameless_20 : decode prog_12_method_5_code 20 = .ok (.iload_n 2, 1) := by decide +kernel
theorem d_Vw_leaveOutNameless_21 : decode prog_12_method_5_code 21 = .ok (.iaload, 1) := by decide +kernel
theorem d_Vw_leaveOutNameless_22 : decode prog_12_method_5_code 22 = .ok (.iaload, 1) := by decide +kernel
theorem d_Vw_leaveOutNameless_23 : decode prog_12_method_5_code 23 = .ok (.ifCond .le 18, 3) := by decide +kernel
theorem d_Vw_leaveOutNameless_26 : decode prog_12_method_5_code 26 = .ok (.aload_n 0, 1) := by decide +kernel
theorem d_Vw_leaveOutNameless_27 : decode prog_12_method_5_code 27 = .ok (.getfield 9, 3) := by decide +kernel
theorem d_Vw_leaveOutNameless_30 : decode prog_12_method_5_code 30 = .ok (.iload_n 1, 1) := by decide +kernel
theorem d_Vw_leaveOutNameless_31 : decode prog_12_method_5_code 31 = .ok (.aload_n 0, 1) := by decide +kernel
theorem d_Vw_leaveOutNameless_32 : decode prog_12_method_5_code 32 = .ok (.getfield 9, 3) := by decide +kernel
theorem d_Vw_leaveOutNameless_35 : decode prog_12_method_5_code 35 = .ok (.iload_n 2, 1) := by decide +kernel
theorem d_Vw_leaveOutNameless_36 : decode prog_12_method_5_code 36 = .ok (.iaload, 1) := by decide +kernel
theorem d_Vw_leaveOutNameless_37 : decode prog_12_method_5_code 37 = .ok (.iastore, 1) := by decide +kernel
theorem d_Vw_leaveOutNameless_38 : decode prog_12_method_5_code 38 = .ok (.iinc 1 1, 3) := by decide +kernel
theorem d_Vw_leaveOutNameless_41 : decode prog_12_method_5_code 41 = .ok (.iinc 2 1, 3) := by decide +kernel
theorem d_Vw_leaveOutNameless_44 : decode prog_12_method_5_code 44 = .ok (.goto (-40), 3) := by decide +kernel
theorem d_Vw_leaveOutNameless_47 : decode prog_12_method_5_code 47 = .ok (.aload_n 0, 1) := by decide +kernel
theorem d_Vw_leaveOutNameless_48 : decode prog_12_method_5_code 48 = .ok (.iload_n 1, 1) := by decide +kernel
theorem d_Vw_leaveOutNameless_49 : decode prog_12_method_5_code 49 = .ok (.putfield 79, 3) := by decide +kernel
theorem d_Vw_leaveOutNameless_52 : decode prog_12_method_5_code 52 = .ok (.return_, 1) := by decide +kernel
def y_Vw_load : MethodName := ⟨"PatchStore$View", "load", "(LPatchStore$Repository;)V"⟩
abbrev c_Vw_load : Cond := (Jvm.Cond.code ({ cls := "PatchStore$View", name := "load", desc := "(LPatchStore$Repository;)V" } : Jvm.MethodName) prog_12_method_2_code (3 : Nat) (Option.none : Option Jvm.ClassFile.FieldType))
abbrev ws_Vw_load : List Cond := c_Vw_load :: xg_1
theorem d_Vw_load_0 : decode prog_12_method_2_code 0 = .ok (.aload_n 0, 1) := by decide +kernel
theorem d_Vw_load_1 : decode prog_12_method_2_code 1 = .ok (.getfield 45, 3) := by decide +kernel
theorem d_Vw_load_4 : decode prog_12_method_2_code 4 = .ok (.aload_n 1, 1) := by decide +kernel
theorem d_Vw_load_5 : decode prog_12_method_2_code 5 = .ok (.if_acmp .ne 15, 3) := by decide +kernel
theorem d_Vw_load_8 : decode prog_12_method_2_code 8 = .ok (.aload_n 0, 1) := by decide +kernel
theorem d_Vw_load_9 : decode prog_12_method_2_code 9 = .ok (.getfield 49, 3) := by decide +kernel
theorem d_Vw_load_12 : decode prog_12_method_2_code 12 = .ok (.aload_n 1, 1) := by decide +kernel
theorem d_Vw_load_13 : decode prog_12_method_2_code 13 = .ok (.getfield 53, 3) := by decide +kernel
theorem d_Vw_load_16 : decode prog_12_method_2_code 16 = .ok (.if_icmp .ne 4, 3) := by decide +kernel
theorem d_Vw_load_19 : decode prog_12_method_2_code 19 = .ok (.return_, 1) := by decide +kernel
theorem d_Vw_load_20 : decode prog_12_method_2_code 20 = .ok (.aload_n 0, 1) := by decide +kernel
theorem d_Vw_load_21 : decode prog_12_method_2_code 21 = .ok (.aload_n 1, 1) := by decide +kernel
theorem d_Vw_load_22 : decode prog_12_method_2_code 22 = .ok (.putfield 45, 3) := by decide +kernel
theorem d_Vw_load_25 : decode prog_12_method_2_code 25 = .ok (.aload_n 0, 1) := by decide +kernel
theorem d_Vw_load_26 : decode prog_12_method_2_code 26 = .ok (.aload_n 1, 1) := by decide +kernel
theorem d_Vw_load_27 : decode prog_12_method_2_code 27 = .ok (.getfield 53, 3) := by decide +kernel
theorem d_Vw_load_30 : decode prog_12_method_2_code 30 = .ok (.putfield 49, 3) := by decide +kernel
theorem d_Vw_load_33 : decode prog_12_method_2_code 33 = .ok (.aload_n 0, 1) := by decide +kernel
theorem d_Vw_load_34 : decode prog_12_method_2_code 34 = .ok (.dup, 1) := by decide +kernel
theorem d_Vw_load_35 : decode prog_12_method_2_code 35 = .ok (.getfield 56, 3) := by decide +kernel
theorem d_Vw_load_38 : decode prog_12_method_2_code 38 = .ok (.iconst 1, 1) := by decide +kernel
theorem d_Vw_load_39 : decode prog_12_method_2_code 39 = .ok (.iadd, 1) := by decide +kernel
theorem d_Vw_load_40 : decode prog_12_method_2_code 40 = .ok (.putfield 56, 3) := by decide +kernel
theorem d_Vw_load_43 : decode prog_12_method_2_code 43 = .ok (.iconst 0, 1) := by decide +kernel
theorem d_Vw_load_44 : decode prog_12_method_2_code 44 = .ok (.istore_n 2, 1) := by decide +kernel
theorem d_Vw_load_45 : decode prog_12_method_2_code 45 = .ok (.iload_n 2, 1) := by decide +kernel
theorem d_Vw_load_46 : decode prog_12_method_2_code 46 = .ok (.aload_n 0, 1) := by decide +kernel
theorem d_Vw_load_47 : decode prog_12_method_2_code 47 = .ok (.getfield 34, 3) := by decide +kernel
theorem d_Vw_load_50 : decode prog_12_method_2_code 50 = .ok (.getfield 59, 3) := by decide +kernel
theorem d_Vw_load_53 : decode prog_12_method_2_code 53 = .ok (.if_icmp .ge 22, 3) := by decide +kernel
theorem d_Vw_load_56 : decode prog_12_method_2_code 56 = .ok (.aload_n 1, 1) := by decide +kernel
theorem d_Vw_load_57 : decode prog_12_method_2_code 57 = .ok (.iload_n 2, 1) := by decide +kernel
theorem d_Vw_load_58 : decode prog_12_method_2_code 58 = .ok (.invokevirtual 62, 3) := by decide +kernel
theorem d_Vw_load_61 : decode prog_12_method_2_code 61 = .ok (.ifCond .eq 8, 3) := by decide +kernel
theorem d_Vw_load_64 : decode prog_12_method_2_code 64 = .ok (.aload_n 0, 1) := by decide +kernel
theorem d_Vw_load_65 : decode prog_12_method_2_code 65 = .ok (.iload_n 2, 1) := by decide +kernel
theorem d_Vw_load_66 : decode prog_12_method_2_code 66 = .ok (.invokevirtual 66, 3) := by decide +kernel
theorem d_Vw_load_69 : decode prog_12_method_2_code 69 = .ok (.iinc 2 1, 3) := by decide +kernel
theorem d_Vw_load_72 : decode prog_12_method_2_code 72 = .ok (.goto (-27), 3) := by decide +kernel
theorem d_Vw_load_75 : decode prog_12_method_2_code 75 = .ok (.aload_n 0, 1) := by decide +kernel
theorem d_Vw_load_76 : decode prog_12_method_2_code 76 = .ok (.getfield 15, 3) := by decide +kernel
theorem d_Vw_load_79 : decode prog_12_method_2_code 79 = .ok (.iconst 0, 1) := by decide +kernel
theorem d_Vw_load_80 : decode prog_12_method_2_code 80 = .ok (.invokestatic 70, 3) := by decide +kernel
theorem d_Vw_load_83 : decode prog_12_method_2_code 83 = .ok (.aload_n 0, 1) := by decide +kernel
theorem d_Vw_load_84 : decode prog_12_method_2_code 84 = .ok (.iconst 0, 1) := by decide +kernel
theorem d_Vw_load_85 : decode prog_12_method_2_code 85 = .ok (.putfield 76, 3) := by decide +kernel
theorem d_Vw_load_88 : decode prog_12_method_2_code 88 = .ok (.aload_n 0, 1) := by decide +kernel
theorem d_Vw_load_89 : decode prog_12_method_2_code 89 = .ok (.iconst 0, 1) := by decide +kernel
theorem d_Vw_load_90 : decode prog_12_method_2_code 90 = .ok (.putfield 79, 3) := by decide +kernel
theorem d_Vw_load_93 : decode prog_12_method_2_code 93 = .ok (.iconst 0, 1) := by decide +kernel
theorem d_Vw_load_94 : decode prog_12_method_2_code 94 = .ok (.istore_n 2, 1) := by decide +kernel
theorem d_Vw_load_95 : decode prog_12_method_2_code 95 = .ok (.iload_n 2, 1) := by decide +kernel
theorem d_Vw_load_96 : decode prog_12_method_2_code 96 = .ok (.aload_n 0, 1) := by decide +kernel
theorem d_Vw_load_97 : decode prog_12_method_2_code 97 = .ok (.getfield 34, 3) := by decide +kernel
theorem d_Vw_load_100 : decode prog_12_method_2_code 100 = .ok (.getfield 59, 3) := by decide +kernel
theorem d_Vw_load_103 : decode prog_12_method_2_code 103 = .ok (.if_icmp .ge 38, 3) := by decide +kernel
theorem d_Vw_load_106 : decode prog_12_method_2_code 106 = .ok (.aload_n 1, 1) := by decide +kernel
theorem d_Vw_load_107 : decode prog_12_method_2_code 107 = .ok (.aload_n 0, 1) := by decide +kernel
theorem d_Vw_load_108 : decode prog_12_method_2_code 108 = .ok (.getfield 34, 3) := by decide +kernel
theorem d_Vw_load_111 : decode prog_12_method_2_code 111 = .ok (.getfield 82, 3) := by decide +kernel
theorem d_Vw_load_114 : decode prog_12_method_2_code 114 = .ok (.iload_n 2, 1) := by decide +kernel
theorem d_Vw_load_115 : decode prog_12_method_2_code 115 = .ok (.iaload, 1) := by decide +kernel
theorem d_Vw_load_116 : decode prog_12_method_2_code 116 = .ok (.invokevirtual 62, 3) := by decide +kernel
theorem d_Vw_load_119 : decode prog_12_method_2_code 119 = .ok (.ifCond .eq 16, 3) := by decide +kernel
theorem d_Vw_load_122 : decode prog_12_method_2_code 122 = .ok (.aload_n 0, 1) := by decide +kernel
theorem d_Vw_load_123 : decode prog_12_method_2_code 123 = .ok (.aload_n 0, 1) := by decide +kernel
theorem d_Vw_load_124 : decode prog_12_method_2_code 124 = .ok (.getfield 34, 3) := by decide +kernel
theorem d_Vw_load_127 : decode prog_12_method_2_code 127 = .ok (.getfield 82, 3) := by decide +kernel
theorem d_Vw_load_130 : decode prog_12_method_2_code 130 = .ok (.iload_n 2, 1) := by decide +kernel
theorem d_Vw_load_131 : decode prog_12_method_2_code 131 = .ok (.iaload, 1) := by decide +kernel
theorem d_Vw_load_132 : decode prog_12_method_2_code 132 = .ok (.invokevirtual 85, 3) := by decide +kernel
theorem d_Vw_load_135 : decode prog_12_method_2_code 135 = .ok (.iinc 2 1, 3) := by decide +kernel
theorem d_Vw_load_138 : decode prog_12_method_2_code 138 = .ok (.goto (-43), 3) := by decide +kernel
theorem d_Vw_load_141 : decode prog_12_method_2_code 141 = .ok (.aload_n 0, 1) := by decide +kernel
theorem d_Vw_load_142 : decode prog_12_method_2_code 142 = .ok (.invokevirtual 88, 3) := by decide +kernel
theorem d_Vw_load_145 : decode prog_12_method_2_code 145 = .ok (.return_, 1) := by decide +kernel
def y_PS_fileAt : MethodName := ⟨"PatchStore", "fileAt", "(LPatchStore$Repository;I)I"⟩
abbrev c_PS_fileAt : Cond := (Jvm.Cond.code ({ cls := "PatchStore", name := "fileAt", desc := "(LPatchStore$Repository;I)I" } : Jvm.MethodName) prog_1_method_23_code (3 : Nat) (Option.some Jvm.ClassFile.FieldType.int))
abbrev ws_PS_fileAt : List Cond := c_PS_fileAt :: xg_1
theorem d_PS_fileAt_0 : decode prog_1_method_23_code 0 = .ok (.aload_n 0, 1) := by decide +kernel
theorem d_PS_fileAt_1 : decode prog_1_method_23_code 1 = .ok (.getfield 48, 3) := by decide +kernel
theorem d_PS_fileAt_4 : decode prog_1_method_23_code 4 = .ok (.aload_n 1, 1) := by decide +kernel
theorem d_PS_fileAt_5 : decode prog_1_method_23_code 5 = .ok (.invokevirtual 211, 3) := by decide +kernel
theorem d_PS_fileAt_8 : decode prog_1_method_23_code 8 = .ok (.iload_n 2, 1) := by decide +kernel
theorem d_PS_fileAt_9 : decode prog_1_method_23_code 9 = .ok (.ifCond .lt 14, 3) := by decide +kernel
theorem d_PS_fileAt_12 : decode prog_1_method_23_code 12 = .ok (.iload_n 2, 1) := by decide +kernel
theorem d_PS_fileAt_13 : decode prog_1_method_23_code 13 = .ok (.aload_n 0, 1) := by decide +kernel
theorem d_PS_fileAt_14 : decode prog_1_method_23_code 14 = .ok (.getfield 48, 3) := by decide +kernel
theorem d_PS_fileAt_17 : decode prog_1_method_23_code 17 = .ok (.getfield 214, 3) := by decide +kernel
theorem d_PS_fileAt_20 : decode prog_1_method_23_code 20 = .ok (.if_icmp .lt 11, 3) := by decide +kernel
theorem d_PS_fileAt_23 : decode prog_1_method_23_code 23 = .ok (.new 174, 3) := by decide +kernel
theorem d_PS_fileAt_26 : decode prog_1_method_23_code 26 = .ok (.dup, 1) := by decide +kernel
theorem d_PS_fileAt_27 : decode prog_1_method_23_code 27 = .ok (.invokespecial 176, 3) := by decide +kernel
theorem d_PS_fileAt_30 : decode prog_1_method_23_code 30 = .ok (.athrow, 1) := by decide +kernel
theorem d_PS_fileAt_31 : decode prog_1_method_23_code 31 = .ok (.aload_n 0, 1) := by decide +kernel
theorem d_PS_fileAt_32 : decode prog_1_method_23_code 32 = .ok (.getfield 48, 3) := by decide +kernel
theorem d_PS_fileAt_35 : decode prog_1_method_23_code 35 = .ok (.getfield 288, 3) := by decide +kernel
theorem d_PS_fileAt_38 : decode prog_1_method_23_code 38 = .ok (.iload_n 2, 1) := by decide +kernel
theorem d_PS_fileAt_39 : decode prog_1_method_23_code 39 = .ok (.iaload, 1) := by decide +kernel
theorem d_PS_fileAt_40 : decode prog_1_method_23_code 40 = .ok (.ireturn, 1) := by decide +kernel
set_option maxHeartbeats 4000000 in
set_option maxRecDepth 100000 in
/-- Arrays.fill -/
theorem m_Ar_fill (l : Launch) (dC : Nat → ClassId) (dI : Nat → Nat → Nat) (cI cB cL cZ cR : ClassId) (ar N : Nat) (f0 : Nat → Int32) (x : Int32) (sz : Nat) (hN : N < 2 ^ 31) : Met l y_Ar_fill0 ws_Ar_fill0 ({ frames := 0, cells := 0, slots := 0, locals := 0 }) (xw_Pc dC dI [(cI, .int), (cB, .byte), (cL, .long), (cZ, .boolean), (cR, .object "PatchStore$Repository")] [.ref ar, .int x] [(ar, .inl (cI, N, .inl f0))] sz) (va_Qv (fun u : Nat → Int32 => ∀ j, j < N → u j = x) (fun u t => xw_B dC dI [(cI, .int), (cB, .byte), (cL, .long), (cZ, .boolean), (cR, .object "PatchStore$Repository")] (va_A [(ar, .inl (cI, N, .inl f0))] sz) [(ar, .inl (cI, N, .inl u))] t) (va_A [(ar, .inl (cI, N, .inl f0))] sz)) 0 0 (va_A [(ar, .inl (cI, N, .inl f0))] sz) := by
  refine Met.ofW (cc := prog_36_method_103_code) (maxL := 4) (ret := none) (by decide) rfl ?_
  intro p e s m args below meth c s₁ B hml hv
  obtain ⟨rfl, hsz, hP, hK, hD0⟩ := hv
  have hx := B.exec
  have hb := B.bytes
  have hr := B.returns
  have hts0 := atoms_spec (ws := ws_Ar_fill0) B.pre
  have hts : ∀ w ∈ xg_1, w.before _ s = true := fun w h => hts0 w (List.mem_cons_of_mem _ h)
  have hown : s.vm.findClass "java/util/Arrays" = some m.cls := findClass_of_methodNamed B.named
  have hlocks := B.notSynchronized
  subst hsz
  have hD := hD0.self (sz := s.heap.size)
  generalize hAe : va_A [(ar, .inl (cI, N, .inl f0))] s.heap.size = A at hD ⊢
  have hA : ∀ q : Nat, s.heap.size ≤ q → A q := fun q h => by rw [← hAe]; exact Or.inr h
  have hS : va_S A s.heap s.heap [] := va_S.rf
  have hl := lv_entry ([.ref ar, .int x]) (n := 4) (Nat.le_of_ble_eq_true rfl)
  rw [lg_entry_eq]
  generalize (lg_sl ([.ref ar, .int x]) ++ List.replicate (4 - (lg_sl ([.ref ar, .int x])).length) Slot.unset).toArray = ls at hl ⊢
  have hl : lv_has ls 4 [(0, .ref ar), (1, .int x)] := hl
  generalize hQe : MQ _ _ _ _ _ _ _ = Q
  refine lv_iconst (v := 0) hx hb d_Ar_fill0_0 (by decide) ?_
  refine lv_istore_n (lv' := [(2, .int 0), (0, .ref ar), (1, .int x)]) hx hb d_Ar_fill0_1 rfl hl (by decide) rfl (fun ls hl => ?_)
  refine lv_aload_n hx hb d_Ar_fill0_2 rfl (lv_at hl 1 rfl) ?_
  refine va_alen (v := nI N) hx hb hK hP 0 0 rfl rfl rfl d_Ar_fill0_3 ?_
  refine lv_istore_n (lv' := [(3, .int (nI N)), (2, .int 0), (0, .ref ar), (1, .int x)]) hx hb d_Ar_fill0_4 rfl hl (by decide) rfl (fun ls hl => ?_)
  have loop_5 : ∀ (n : Nat) (k : Nat) (f : Nat → Int32) (H : Heap) (locs : List Loc) (ls : Array Slot), N - k < n → (k ≤ N) → (∀ j, j < k → f j = x) → va_P (dC, dI) classes [(ar, .inl (cI, N, .inl f))] H → va_D A [(ar, .inl (cI, N, .inl f))] → va_S A s.heap H locs → lv_has ls 4 [(0, .ref ar), (1, .int x), (2, .int (nI k)), (3, .int (nI N))] → W p l e (headSpec ws_Ar_fill0 ({ frames := 0, cells := 0, slots := 0, locals := 0 })).room s m ([.ref ar, .int x] : List Value).toArray below meth c H locs 0 0 Q (F0 m 5 ls []) := by
    intro n
    induction n with
    | zero => intro k f H locs ls hm; exact absurd hm (Nat.not_lt_zero _)
    | succ n ih_5 =>
      intro k f H locs ls hm hk hf hP hD hS hl
      refine lv_iload_n hx hb d_Ar_fill0_5 rfl (lv_at hl 2 rfl) ?_
      refine lv_iload_n hx hb d_Ar_fill0_6 rfl (lv_at hl 3 rfl) ?_
      refine lv_icmp_ge (tgt := 20) hx hb d_Ar_fill0_7 (by decide) (fun c_7 => ?_) (fun c_7 => ?_)
      · have hk8 : k = N := by have := (nI_leI (a := N) (b := k) (by omega) (by omega)).mp c_7; omega
        rw [hk8] at hf
        rw [← hQe]
        exact W.vret hx hb hr (fun t ht hW => ⟨⟨f, rfl, hf, by rw [ht]; exact hP, va_K.moved hW.alike hK, hD⟩, hS.F ht⟩) hS.2.2 d_Ar_fill0_20
      · have hk8 : k < N := by rcases Nat.lt_or_ge k N with z | z; exact z; exact absurd (nI_le (a := N) z (by omega)) c_7
        refine lv_aload_n hx hb d_Ar_fill0_10 rfl (lv_at hl 0 rfl) ?_
        refine lv_iload_n hx hb d_Ar_fill0_11 rfl (lv_at hl 2 rfl) ?_
        refine lv_iload_n hx hb d_Ar_fill0_12 rfl (lv_at hl 1 rfl) ?_
        refine va_iast hx hb hK hP hD hS 0 0 rfl rfl (vp_in_nI (by omega) (by omega)) d_Ar_fill0_13 (fun H locs hP hD hS => ?_)
        rw [show (nI k).toNatClampNeg = k from nI_clamp (by omega)] at hP hD
        have hP : va_P (dC, dI) classes [(ar, .inl (cI, N, .inl (upd f k x)))] H := hP
        have hD : va_D A [(ar, .inl (cI, N, .inl (upd f k x)))] := hD
        refine lv_iinc (v := nI (k + 1)) (lv' := [(2, .int (nI (k + 1))), (0, .ref ar), (1, .int x), (3, .int (nI N))]) hx hb d_Ar_fill0_14 hl (k := 2) rfl (by exact nI_1 k) (by decide) rfl (fun ls hl => ?_)
        refine lv_goto (tgt := 5) hx hb d_Ar_fill0_17 (by decide) ?_
        exact ih_5 (k + 1) (upd f k x) _ _ _ (by omega) (by omega) (lt_s (fun a ha => by rw [pk_un (by omega)]; exact hf a ha) (by rw [pk_us])) hP hD hS (lv_sub hl [1, 2, 0, 3] rfl)
  exact loop_5 _ 0 f0 _ _ _ (Nat.lt_succ_self _) (Nat.zero_le _) (fun j hj => absurd hj (Nat.not_lt_zero j)) hP hD hS (lv_sub hl [2, 3, 1, 0] rfl)
set_option maxHeartbeats 4000000 in
set_option maxRecDepth 100000 in
/-- leaveOutNameless, no file -/
theorem m_Vw_leaveOut0 (l : Launch) (dC : Nat → ClassId) (dI : Nat → Nat → Nat) (cI cB cL cZ cR : ClassId) (h : Nat) (vw_files vw_namingsOf vw_namings vw_namingTotal vw_stock vw_changes vw_loaded vw_version vw_over vw_round vw_heads vw_nexts vw_sharing : Value) (sz : Nat) : Met l y_Vw_leaveOutNameless ws_Vw_leaveOutNameless ({ frames := 0, cells := 0, slots := 0, locals := 0 }) (xw_Pc dC dI [(cI, .int), (cB, .byte), (cL, .long), (cZ, .boolean), (cR, .object "PatchStore$Repository")] [.ref h] [(h, .inr (11, [vw_files, vw_namingsOf, vw_namings, .int 0, vw_namingTotal, vw_stock, vw_changes, vw_loaded, vw_version, vw_over, vw_round, vw_heads, vw_nexts, vw_sharing]))] sz) (va_Qv (fun _ : Unit => True) (fun _ t => xw_B dC dI [(cI, .int), (cB, .byte), (cL, .long), (cZ, .boolean), (cR, .object "PatchStore$Repository")] (va_A [(h, .inr (11, [vw_files, vw_namingsOf, vw_namings, .int 0, vw_namingTotal, vw_stock, vw_changes, vw_loaded, vw_version, vw_over, vw_round, vw_heads, vw_nexts, vw_sharing]))] sz) [(h, .inr (11, [vw_files, vw_namingsOf, vw_namings, .int 0, vw_namingTotal, vw_stock, vw_changes, vw_loaded, vw_version, vw_over, vw_round, vw_heads, vw_nexts, vw_sharing]))] t) (va_A [(h, .inr (11, [vw_files, vw_namingsOf, vw_namings, .int 0, vw_namingTotal, vw_stock, vw_changes, vw_loaded, vw_version, vw_over, vw_round, vw_heads, vw_nexts, vw_sharing]))] sz)) 0 0 (va_A [(h, .inr (11, [vw_files, vw_namingsOf, vw_namings, .int 0, vw_namingTotal, vw_stock, vw_changes, vw_loaded, vw_version, vw_over, vw_round, vw_heads, vw_nexts, vw_sharing]))] sz) := by
  refine Met.ofW (cc := prog_12_method_5_code) (maxL := 3) (ret := none) (by decide) rfl ?_
  intro p e s m args below meth c s₁ B hml hv
  obtain ⟨rfl, hsz, hP, hK, hD0⟩ := hv
  have hx := B.exec
  have hb := B.bytes
  have hr := B.returns
  have hts0 := atoms_spec (ws := ws_Vw_leaveOutNameless) B.pre
  have hts : ∀ w ∈ xg_1, w.before _ s = true := fun w h => hts0 w (List.mem_cons_of_mem _ h)
  have hown : s.vm.findClass "PatchStore$View" = some m.cls := findClass_of_methodNamed B.named
  have hlocks := B.notSynchronized
  subst hsz
  have hD := hD0.self (sz := s.heap.size)
  generalize hAe : va_A [(h, .inr (11, [vw_files, vw_namingsOf, vw_namings, .int 0, vw_namingTotal, vw_stock, vw_changes, vw_loaded, vw_version, vw_over, vw_round, vw_heads, vw_nexts, vw_sharing]))] s.heap.size = A at hD ⊢
  have hA : ∀ q : Nat, s.heap.size ≤ q → A q := fun q h => by rw [← hAe]; exact Or.inr h
  have hS : va_S A s.heap s.heap [] := va_S.rf
  have hl := lv_entry ([.ref h]) (n := 3) (Nat.le_of_ble_eq_true rfl)
  rw [lg_entry_eq]
  generalize (lg_sl ([.ref h]) ++ List.replicate (3 - (lg_sl ([.ref h])).length) Slot.unset).toArray = ls at hl ⊢
  have hl : lv_has ls 3 [(0, .ref h)] := hl
  refine lv_iconst (v := 0) hx hb d_Vw_leaveOutNameless_0 (by decide) ?_
  refine lv_istore_n (lv' := [(1, .int 0), (0, .ref h)]) hx hb d_Vw_leaveOutNameless_1 rfl hl (by decide) rfl (fun ls hl => ?_)
  refine lv_iconst (v := 0) hx hb d_Vw_leaveOutNameless_2 (by decide) ?_
  refine lv_istore_n (lv' := [(2, .int 0), (1, .int 0), (0, .ref h)]) hx hb d_Vw_leaveOutNameless_3 rfl hl (by decide) rfl (fun ls hl => ?_)
  refine lv_iload_n hx hb d_Vw_leaveOutNameless_4 rfl (lv_at hl 0 rfl) ?_
  refine lv_aload_n hx hb d_Vw_leaveOutNameless_5 rfl (lv_at hl 2 rfl) ?_
  refine va_get (D := (dC, dI)) (ci := 11) (v := .int 0) (C := R_Vw) (T := F_Vw) (N := 14) hx hb hts i_Vw hown hK hP 0 rfl rfl 3 (by decide) (hts _ gw_326) (fun _ h9 => h9) rfl d_Vw_leaveOutNameless_6 ?_
  refine lv_icmp_ge (tgt := 47) hx hb d_Vw_leaveOutNameless_9 (by decide) (fun _ => ?_) (fun c_9 => absurd (by decide) c_9)
  refine lv_aload_n hx hb d_Vw_leaveOutNameless_47 rfl (lv_at hl 2 rfl) ?_
  refine lv_iload_n hx hb d_Vw_leaveOutNameless_48 rfl (lv_at hl 1 rfl) ?_
  refine va_put (D := (dC, dI)) (ci := 11) (v := .int 0) (ty := .int) (C := R_Vw) (T := F_Vw) (N := 14) hx hb hts i_Vw t_Vw t_Vw_ok n_Vw hown hK hP hD hS 0 rfl rfl 3 (by decide) (hts _ gw_326) (fun _ h9 => h9) rfl (by decide +kernel) rfl rfl (Nat.le_of_ble_eq_true rfl) d_Vw_leaveOutNameless_49 (fun H locs hP hD hS => ?_)
  have hP : va_P (dC, dI) classes [(h, .inr (11, [vw_files, vw_namingsOf, vw_namings, .int 0, vw_namingTotal, vw_stock, vw_changes, vw_loaded, vw_version, vw_over, vw_round, vw_heads, vw_nexts, vw_sharing]))] H := hP
  have hD : va_D A [(h, .inr (11, [vw_files, vw_namingsOf, vw_namings, .int 0, vw_namingTotal, vw_stock, vw_changes, vw_loaded, vw_version, vw_over, vw_round, vw_heads, vw_nexts, vw_sharing]))] := hD
  exact W.vret hx hb hr (fun t ht hW => ⟨⟨(), rfl, trivial, by rw [ht]; exact hP, va_K.moved hW.alike hK, hD⟩, hS.F ht⟩) hS.2.2 d_Vw_leaveOutNameless_52
set_option maxHeartbeats 4000000 in
set_option maxRecDepth 100000 in
/-- View.load on a fresh object -/
theorem m_Vw_load0 (l : Launch) (dC : Nat → ClassId) (dI : Nat → Nat → Nat) (cI cB cL cZ cR : ClassId) (vw no rr sk : Nat) (vw_files vw_namings vw_changes vw_over vw_heads vw_nexts vw_sharing rr_members rr_digest rr_size rr_digestVersion sk_bytes sk_from sk_firstDependency sk_firstChange sk_dependencies sk_hashes sk_byHash sk_leansOn sk_leantBy sk_changes sk_lines : Value) (ver : Int32) (f0 : Nat → Int32) (sz : Nat) : Met l y_Vw_load ws_Vw_load ({ frames := 1, cells := 0, slots := 0, locals := 60 }) (xw_Pc dC dI [(cI, .int), (cB, .byte), (cL, .long), (cZ, .boolean), (cR, .object "PatchStore$Repository")] [.ref vw, .ref rr] [(vw, .inr (11, [vw_files, .ref no, vw_namings, .int 0, .int 0, .ref sk, vw_changes, .null, .int 0, vw_over, .int 0, vw_heads, vw_nexts, vw_sharing])), (no, .inl (cI, 200, .inl f0)), (rr, .inr (7, [rr_members, rr_digest, rr_size, .int ver, rr_digestVersion])), (sk, .inr (9, [sk_bytes, sk_from, sk_firstDependency, sk_firstChange, sk_dependencies, sk_hashes, sk_byHash, sk_leansOn, sk_leantBy, sk_changes, sk_lines, .int 0]))] sz) (va_Qv (fun _ : Nat → Int32 => True) (fun u t => xw_B dC dI [(cI, .int), (cB, .byte), (cL, .long), (cZ, .boolean), (cR, .object "PatchStore$Repository")] (va_A [(vw, .inr (11, [vw_files, .ref no, vw_namings, .int 0, .int 0, .ref sk, vw_changes, .null, .int 0, vw_over, .int 0, vw_heads, vw_nexts, vw_sharing])), (no, .inl (cI, 200, .inl f0)), (rr, .inr (7, [rr_members, rr_digest, rr_size, .int ver, rr_digestVersion])), (sk, .inr (9, [sk_bytes, sk_from, sk_firstDependency, sk_firstChange, sk_dependencies, sk_hashes, sk_byHash, sk_leansOn, sk_leantBy, sk_changes, sk_lines, .int 0]))] sz) [(vw, .inr (11, [vw_files, .ref no, vw_namings, .int 0, .int 0, .ref sk, vw_changes, .ref rr, .int ver, vw_over, .int 1, vw_heads, vw_nexts, vw_sharing])), (no, .inl (cI, 200, .inl u)), (rr, .inr (7, [rr_members, rr_digest, rr_size, .int ver, rr_digestVersion])), (sk, .inr (9, [sk_bytes, sk_from, sk_firstDependency, sk_firstChange, sk_dependencies, sk_hashes, sk_byHash, sk_leansOn, sk_leantBy, sk_changes, sk_lines, .int 0]))] t) (va_A [(vw, .inr (11, [vw_files, .ref no, vw_namings, .int 0, .int 0, .ref sk, vw_changes, .null, .int 0, vw_over, .int 0, vw_heads, vw_nexts, vw_sharing])), (no, .inl (cI, 200, .inl f0)), (rr, .inr (7, [rr_members, rr_digest, rr_size, .int ver, rr_digestVersion])), (sk, .inr (9, [sk_bytes, sk_from, sk_firstDependency, sk_firstChange, sk_dependencies, sk_hashes, sk_byHash, sk_leansOn, sk_leantBy, sk_changes, sk_lines, .int 0]))] sz)) 0 0 (va_A [(vw, .inr (11, [vw_files, .ref no, vw_namings, .int 0, .int 0, .ref sk, vw_changes, .null, .int 0, vw_over, .int 0, vw_heads, vw_nexts, vw_sharing])), (no, .inl (cI, 200, .inl f0)), (rr, .inr (7, [rr_members, rr_digest, rr_size, .int ver, rr_digestVersion])), (sk, .inr (9, [sk_bytes, sk_from, sk_firstDependency, sk_firstChange, sk_dependencies, sk_hashes, sk_byHash, sk_leansOn, sk_leantBy, sk_changes, sk_lines, .int 0]))] sz) := by
  refine Met.ofW (cc := prog_12_method_2_code) (maxL := 3) (ret := none) (by decide) rfl ?_
  intro p e s m args below meth c s₁ B hml hv
  obtain ⟨rfl, hsz, hP, hK, hD0⟩ := hv
  have hx := B.exec
  have hb := B.bytes
  have hr := B.returns
  have hts0 := atoms_spec (ws := ws_Vw_load) B.pre
  have hts : ∀ w ∈ xg_1, w.before _ s = true := fun w h => hts0 w (List.mem_cons_of_mem _ h)
  have hown : s.vm.findClass "PatchStore$View" = some m.cls := findClass_of_methodNamed B.named
  have hlocks := B.notSynchronized
  subst hsz
  have hD := hD0.self (sz := s.heap.size)
  generalize hAe : va_A [(vw, .inr (11, [vw_files, .ref no, vw_namings, .int 0, .int 0, .ref sk, vw_changes, .null, .int 0, vw_over, .int 0, vw_heads, vw_nexts, vw_sharing])), (no, .inl (cI, 200, .inl f0)), (rr, .inr (7, [rr_members, rr_digest, rr_size, .int ver, rr_digestVersion])), (sk, .inr (9, [sk_bytes, sk_from, sk_firstDependency, sk_firstChange, sk_dependencies, sk_hashes, sk_byHash, sk_leansOn, sk_leantBy, sk_changes, sk_lines, .int 0]))] s.heap.size = A at hD ⊢
  have hA : ∀ q : Nat, s.heap.size ≤ q → A q := fun q h => by rw [← hAe]; exact Or.inr h
  have hS : va_S A s.heap s.heap [] := va_S.rf
  have hl := lv_entry ([.ref vw, .ref rr]) (n := 3) (Nat.le_of_ble_eq_true rfl)
  rw [lg_entry_eq]
  generalize (lg_sl ([.ref vw, .ref rr]) ++ List.replicate (3 - (lg_sl ([.ref vw, .ref rr])).length) Slot.unset).toArray = ls at hl ⊢
  have hl : lv_has ls 3 [(0, .ref vw), (1, .ref rr)] := hl
  generalize hQe : MQ _ _ _ _ _ _ _ = Q
  refine lv_aload_n hx hb d_Vw_load_0 rfl (lv_at hl 0 rfl) ?_
  refine va_get (D := (dC, dI)) (ci := 11) (v := .null) (C := R_Vw) (T := F_Vw) (N := 14) hx hb hts i_Vw hown hK hP 0 rfl rfl 7 (by decide) (hts _ gw_332) (fun _ h9 => h9) rfl d_Vw_load_1 ?_
  refine lv_aload_n hx hb d_Vw_load_4 rfl (lv_at hl 1 rfl) ?_
  refine lv_acmp_ne (rx := none) (ry := some rr) (tgt := 20) hx hb d_Vw_load_5 (by decide) (fun _ => ?_) (fun c_5 => nomatch c_5)
  refine lv_aload_n hx hb d_Vw_load_20 rfl (lv_at hl 0 rfl) ?_
  refine lv_aload_n hx hb d_Vw_load_21 rfl (lv_at hl 1 rfl) ?_
  refine va_put (D := (dC, dI)) (ci := 11) (v := .ref rr) (ty := .object "PatchStore$Repository") (C := R_Vw) (T := F_Vw) (N := 14) hx hb hts i_Vw t_Vw t_Vw_ok n_Vw hown hK hP hD hS 0 rfl rfl 7 (by decide) (hts _ gw_332) (fun _ h9 => h9) rfl (by decide +kernel) rfl rfl (Nat.le_of_ble_eq_true rfl) d_Vw_load_22 (fun H locs hP hD hS => ?_)
  have hP : va_P (dC, dI) classes [(vw, .inr (11, [vw_files, .ref no, vw_namings, .int 0, .int 0, .ref sk, vw_changes, .ref rr, .int 0, vw_over, .int 0, vw_heads, vw_nexts, vw_sharing])), (no, .inl (cI, 200, .inl f0)), (rr, .inr (7, [rr_members, rr_digest, rr_size, .int ver, rr_digestVersion])), (sk, .inr (9, [sk_bytes, sk_from, sk_firstDependency, sk_firstChange, sk_dependencies, sk_hashes, sk_byHash, sk_leansOn, sk_leantBy, sk_changes, sk_lines, .int 0]))] H := hP
  have hD : va_D A [(vw, .inr (11, [vw_files, .ref no, vw_namings, .int 0, .int 0, .ref sk, vw_changes, .ref rr, .int 0, vw_over, .int 0, vw_heads, vw_nexts, vw_sharing])), (no, .inl (cI, 200, .inl f0)), (rr, .inr (7, [rr_members, rr_digest, rr_size, .int ver, rr_digestVersion])), (sk, .inr (9, [sk_bytes, sk_from, sk_firstDependency, sk_firstChange, sk_dependencies, sk_hashes, sk_byHash, sk_leansOn, sk_leantBy, sk_changes, sk_lines, .int 0]))] := hD
  refine lv_aload_n hx hb d_Vw_load_25 rfl (lv_at hl 0 rfl) ?_
  refine lv_aload_n hx hb d_Vw_load_26 rfl (lv_at hl 1 rfl) ?_
  refine va_get (D := (dC, dI)) (ci := 7) (v := .int ver) (C := R_Re) (T := F_Re) (N := 5) hx hb hts i_Re hown hK hP 2 rfl rfl 3 (by decide) (hts _ gw_533) (fun _ h9 => h9) rfl d_Vw_load_27 ?_
  refine va_put (D := (dC, dI)) (ci := 11) (v := .int ver) (ty := .int) (C := R_Vw) (T := F_Vw) (N := 14) hx hb hts i_Vw t_Vw t_Vw_ok n_Vw hown hK hP hD hS 0 rfl rfl 8 (by decide) (hts _ gw_333) (fun _ h9 => h9) rfl (by decide +kernel) rfl rfl (Nat.le_of_ble_eq_true rfl) d_Vw_load_30 (fun H locs hP hD hS => ?_)
  have hP : va_P (dC, dI) classes [(vw, .inr (11, [vw_files, .ref no, vw_namings, .int 0, .int 0, .ref sk, vw_changes, .ref rr, .int ver, vw_over, .int 0, vw_heads, vw_nexts, vw_sharing])), (no, .inl (cI, 200, .inl f0)), (rr, .inr (7, [rr_members, rr_digest, rr_size, .int ver, rr_digestVersion])), (sk, .inr (9, [sk_bytes, sk_from, sk_firstDependency, sk_firstChange, sk_dependencies, sk_hashes, sk_byHash, sk_leansOn, sk_leantBy, sk_changes, sk_lines, .int 0]))] H := hP
  have hD : va_D A [(vw, .inr (11, [vw_files, .ref no, vw_namings, .int 0, .int 0, .ref sk, vw_changes, .ref rr, .int ver, vw_over, .int 0, vw_heads, vw_nexts, vw_sharing])), (no, .inl (cI, 200, .inl f0)), (rr, .inr (7, [rr_members, rr_digest, rr_size, .int ver, rr_digestVersion])), (sk, .inr (9, [sk_bytes, sk_from, sk_firstDependency, sk_firstChange, sk_dependencies, sk_hashes, sk_byHash, sk_leansOn, sk_leantBy, sk_changes, sk_lines, .int 0]))] := hD
  refine lv_aload_n hx hb d_Vw_load_33 rfl (lv_at hl 0 rfl) ?_
  refine lv_dup hx hb d_Vw_load_34 rfl ?_
  refine va_get (D := (dC, dI)) (ci := 11) (v := .int 0) (C := R_Vw) (T := F_Vw) (N := 14) hx hb hts i_Vw hown hK hP 0 rfl rfl 10 (by decide) (hts _ gw_335) (fun _ h9 => h9) rfl d_Vw_load_35 ?_
  refine lv_iconst (v := 1) hx hb d_Vw_load_38 (by decide) ?_
  refine lv_iadd hx hb d_Vw_load_39 ?_
  refine lv_topi (fun x_1 ex_1 => ?_)
  obtain rfl : x_1 = 1 := by rw [ex_1]; first | done | (decide)
  refine va_put (D := (dC, dI)) (ci := 11) (v := .int 1) (ty := .int) (C := R_Vw) (T := F_Vw) (N := 14) hx hb hts i_Vw t_Vw t_Vw_ok n_Vw hown hK hP hD hS 0 rfl rfl 10 (by decide) (hts _ gw_335) (fun _ h9 => h9) rfl (by decide +kernel) rfl rfl (Nat.le_of_ble_eq_true rfl) d_Vw_load_40 (fun H locs hP hD hS => ?_)
  have hP : va_P (dC, dI) classes [(vw, .inr (11, [vw_files, .ref no, vw_namings, .int 0, .int 0, .ref sk, vw_changes, .ref rr, .int ver, vw_over, .int 1, vw_heads, vw_nexts, vw_sharing])), (no, .inl (cI, 200, .inl f0)), (rr, .inr (7, [rr_members, rr_digest, rr_size, .int ver, rr_digestVersion])), (sk, .inr (9, [sk_bytes, sk_from, sk_firstDependency, sk_firstChange, sk_dependencies, sk_hashes, sk_byHash, sk_leansOn, sk_leantBy, sk_changes, sk_lines, .int 0]))] H := hP
  have hD : va_D A [(vw, .inr (11, [vw_files, .ref no, vw_namings, .int 0, .int 0, .ref sk, vw_changes, .ref rr, .int ver, vw_over, .int 1, vw_heads, vw_nexts, vw_sharing])), (no, .inl (cI, 200, .inl f0)), (rr, .inr (7, [rr_members, rr_digest, rr_size, .int ver, rr_digestVersion])), (sk, .inr (9, [sk_bytes, sk_from, sk_firstDependency, sk_firstChange, sk_dependencies, sk_hashes, sk_byHash, sk_leansOn, sk_leantBy, sk_changes, sk_lines, .int 0]))] := hD
  refine lv_iconst (v := 0) hx hb d_Vw_load_43 (by decide) ?_
  refine lv_istore_n (lv' := [(2, .int 0), (0, .ref vw), (1, .ref rr)]) hx hb d_Vw_load_44 rfl hl (by decide) rfl (fun ls hl => ?_)
  refine lv_iload_n hx hb d_Vw_load_45 rfl (lv_at hl 0 rfl) ?_
  refine lv_aload_n hx hb d_Vw_load_46 rfl (lv_at hl 1 rfl) ?_
  refine va_get (D := (dC, dI)) (ci := 11) (v := .ref sk) (C := R_Vw) (T := F_Vw) (N := 14) hx hb hts i_Vw hown hK hP 0 rfl rfl 5 (by decide) (hts _ gw_330) (fun _ h9 => h9) rfl d_Vw_load_47 ?_
  refine va_get (D := (dC, dI)) (ci := 9) (v := .int 0) (C := R_St) (T := F_St) (N := 12) hx hb hts i_St hown hK hP 3 rfl rfl 11 (by decide) (hts _ gw_236) (fun _ h9 => h9) rfl d_Vw_load_50 ?_
  refine lv_icmp_ge (tgt := 75) hx hb d_Vw_load_53 (by decide) (fun _ => ?_) (fun c_53 => absurd (by decide) c_53)
  refine lv_aload_n hx hb d_Vw_load_75 rfl (lv_at hl 1 rfl) ?_
  refine va_get (D := (dC, dI)) (ci := 11) (v := .ref no) (C := R_Vw) (T := F_Vw) (N := 14) hx hb hts i_Vw hown hK hP 0 rfl rfl 1 (by decide) (hts _ gw_321) (fun _ h9 => h9) rfl d_Vw_load_76 ?_
  refine lv_iconst (v := 0) hx hb d_Vw_load_79 (by decide) ?_
  have hPc := hP.sub (ws' := [(no, .inl (cI, 200, .inl f0))]) [1] rfl
  have hDc := hD.sub (ws' := [(no, .inl (cI, 200, .inl f0))]) [1] (by decide) rfl
  have hFc := va_free (wc := [(no, .inl (cI, 200, .inl f0))]) hD hS hA [1] rfl
  refine va_callv (va_runS (As := [.ref no, .int 0]) (rest := []) ⟨hx, hb, hml, hown, hts⟩ (m_Ar_fill l dC dI cI cB cL cZ cR no 200 f0 0 H.size (by decide)) ⟨callB_of 2 hts (xg_in gw_736) rfl rfl rfl (hts _ gw_22) (hts _ gw_1006) (by decide +kernel) ⟨Nat.le_of_ble_eq_true rfl, Nat.le_of_ble_eq_true rfl⟩, hts _ gw_735⟩ ⟨xw_blind, fun U hU hW => ⟨rfl, by rw [hU], by rw [hU]; exact hPc, va_K.moved hW.alike hK, hDc.weaken (fun _ _ _ _ => trivial)⟩⟩ rfl rfl hl.1 rfl (lv_room (Nat.le_of_ble_eq_true rfl)) d_Vw_load_80 ⟨Nat.le_of_ble_eq_true rfl, Nat.le_of_ble_eq_true rfl⟩) hS (fun q _ h => hFc q h) hFc (fun no1 t H1 locs ht hvm hw hB hz1 hk1 hS => ?_)
  obtain ⟨hP1, hK1, hD1⟩ := hB
  rw [ht] at hP1
  obtain ⟨hP, hD⟩ := va_join (wr := [(vw, .inr (11, [vw_files, .ref no, vw_namings, .int 0, .int 0, .ref sk, vw_changes, .ref rr, .int ver, vw_over, .int 1, vw_heads, vw_nexts, vw_sharing])), (rr, .inr (7, [rr_members, rr_digest, rr_size, .int ver, rr_digestVersion])), (sk, .inr (9, [sk_bytes, sk_from, sk_firstDependency, sk_firstChange, sk_dependencies, sk_hashes, sk_byHash, sk_leansOn, sk_leantBy, sk_changes, sk_lines, .int 0]))]) (w1 := [(no, .inl (cI, 200, .inl no1))]) hP hD [1] [0, 2, 3] rfl rfl (by decide) (by decide) hk1 hFc hP1 hD1
  generalize H1 = H at hP hS ⊢
  have hP : va_P (dC, dI) classes [(vw, .inr (11, [vw_files, .ref no, vw_namings, .int 0, .int 0, .ref sk, vw_changes, .ref rr, .int ver, vw_over, .int 1, vw_heads, vw_nexts, vw_sharing])), (rr, .inr (7, [rr_members, rr_digest, rr_size, .int ver, rr_digestVersion])), (sk, .inr (9, [sk_bytes, sk_from, sk_firstDependency, sk_firstChange, sk_dependencies, sk_hashes, sk_byHash, sk_leansOn, sk_leantBy, sk_changes, sk_lines, .int 0])), (no, .inl (cI, 200, .inl no1))] H := hP
  have hD : va_D A [(vw, .inr (11, [vw_files, .ref no, vw_namings, .int 0, .int 0, .ref sk, vw_changes, .ref rr, .int ver, vw_over, .int 1, vw_heads, vw_nexts, vw_sharing])), (rr, .inr (7, [rr_members, rr_digest, rr_size, .int ver, rr_digestVersion])), (sk, .inr (9, [sk_bytes, sk_from, sk_firstDependency, sk_firstChange, sk_dependencies, sk_hashes, sk_byHash, sk_leansOn, sk_leantBy, sk_changes, sk_lines, .int 0])), (no, .inl (cI, 200, .inl no1))] := hD
  refine lv_aload_n hx hb d_Vw_load_83 rfl (lv_at hl 1 rfl) ?_
  refine lv_iconst (v := 0) hx hb d_Vw_load_84 (by decide) ?_
  refine va_put (D := (dC, dI)) (ci := 11) (v := .int 0) (ty := .int) (C := R_Vw) (T := F_Vw) (N := 14) hx hb hts i_Vw t_Vw t_Vw_ok n_Vw hown hK hP hD hS 0 rfl rfl 4 (by decide) (hts _ gw_328) (fun _ h9 => h9) rfl (by decide +kernel) rfl rfl (Nat.le_of_ble_eq_true rfl) d_Vw_load_85 (fun H locs hP hD hS => ?_)
  have hP : va_P (dC, dI) classes [(vw, .inr (11, [vw_files, .ref no, vw_namings, .int 0, .int 0, .ref sk, vw_changes, .ref rr, .int ver, vw_over, .int 1, vw_heads, vw_nexts, vw_sharing])), (rr, .inr (7, [rr_members, rr_digest, rr_size, .int ver, rr_digestVersion])), (sk, .inr (9, [sk_bytes, sk_from, sk_firstDependency, sk_firstChange, sk_dependencies, sk_hashes, sk_byHash, sk_leansOn, sk_leantBy, sk_changes, sk_lines, .int 0])), (no, .inl (cI, 200, .inl no1))] H := hP
  have hD : va_D A [(vw, .inr (11, [vw_files, .ref no, vw_namings, .int 0, .int 0, .ref sk, vw_changes, .ref rr, .int ver, vw_over, .int 1, vw_heads, vw_nexts, vw_sharing])), (rr, .inr (7, [rr_members, rr_digest, rr_size, .int ver, rr_digestVersion])), (sk, .inr (9, [sk_bytes, sk_from, sk_firstDependency, sk_firstChange, sk_dependencies, sk_hashes, sk_byHash, sk_leansOn, sk_leantBy, sk_changes, sk_lines, .int 0])), (no, .inl (cI, 200, .inl no1))] := hD
  refine lv_aload_n hx hb d_Vw_load_88 rfl (lv_at hl 1 rfl) ?_
  refine lv_iconst (v := 0) hx hb d_Vw_load_89 (by decide) ?_
  refine va_put (D := (dC, dI)) (ci := 11) (v := .int 0) (ty := .int) (C := R_Vw) (T := F_Vw) (N := 14) hx hb hts i_Vw t_Vw t_Vw_ok n_Vw hown hK hP hD hS 0 rfl rfl 3 (by decide) (hts _ gw_326) (fun _ h9 => h9) rfl (by decide +kernel) rfl rfl (Nat.le_of_ble_eq_true rfl) d_Vw_load_90 (fun H locs hP hD hS => ?_)
  have hP : va_P (dC, dI) classes [(vw, .inr (11, [vw_files, .ref no, vw_namings, .int 0, .int 0, .ref sk, vw_changes, .ref rr, .int ver, vw_over, .int 1, vw_heads, vw_nexts, vw_sharing])), (rr, .inr (7, [rr_members, rr_digest, rr_size, .int ver, rr_digestVersion])), (sk, .inr (9, [sk_bytes, sk_from, sk_firstDependency, sk_firstChange, sk_dependencies, sk_hashes, sk_byHash, sk_leansOn, sk_leantBy, sk_changes, sk_lines, .int 0])), (no, .inl (cI, 200, .inl no1))] H := hP
  have hD : va_D A [(vw, .inr (11, [vw_files, .ref no, vw_namings, .int 0, .int 0, .ref sk, vw_changes, .ref rr, .int ver, vw_over, .int 1, vw_heads, vw_nexts, vw_sharing])), (rr, .inr (7, [rr_members, rr_digest, rr_size, .int ver, rr_digestVersion])), (sk, .inr (9, [sk_bytes, sk_from, sk_firstDependency, sk_firstChange, sk_dependencies, sk_hashes, sk_byHash, sk_leansOn, sk_leantBy, sk_changes, sk_lines, .int 0])), (no, .inl (cI, 200, .inl no1))] := hD
  refine lv_iconst (v := 0) hx hb d_Vw_load_93 (by decide) ?_
  refine lv_istore_n (lv' := [(2, .int 0), (0, .ref vw), (1, .ref rr)]) hx hb d_Vw_load_94 rfl hl (by decide) rfl (fun ls hl => ?_)
  refine lv_iload_n hx hb d_Vw_load_95 rfl (lv_at hl 0 rfl) ?_
  refine lv_aload_n hx hb d_Vw_load_96 rfl (lv_at hl 1 rfl) ?_
  refine va_get (D := (dC, dI)) (ci := 11) (v := .ref sk) (C := R_Vw) (T := F_Vw) (N := 14) hx hb hts i_Vw hown hK hP 0 rfl rfl 5 (by decide) (hts _ gw_330) (fun _ h9 => h9) rfl d_Vw_load_97 ?_
  refine va_get (D := (dC, dI)) (ci := 9) (v := .int 0) (C := R_St) (T := F_St) (N := 12) hx hb hts i_St hown hK hP 2 rfl rfl 11 (by decide) (hts _ gw_236) (fun _ h9 => h9) rfl d_Vw_load_100 ?_
  refine lv_icmp_ge (tgt := 141) hx hb d_Vw_load_103 (by decide) (fun _ => ?_) (fun c_103 => absurd (by decide) c_103)
  refine lv_aload_n hx hb d_Vw_load_141 rfl (lv_at hl 1 rfl) ?_
  have hPc := hP.sub (ws' := [(vw, .inr (11, [vw_files, .ref no, vw_namings, .int 0, .int 0, .ref sk, vw_changes, .ref rr, .int ver, vw_over, .int 1, vw_heads, vw_nexts, vw_sharing]))]) [0] rfl
  have hDc := hD.sub (ws' := [(vw, .inr (11, [vw_files, .ref no, vw_namings, .int 0, .int 0, .ref sk, vw_changes, .ref rr, .int ver, vw_over, .int 1, vw_heads, vw_nexts, vw_sharing]))]) [0] (by decide) rfl
  have hFc := va_free (wc := [(vw, .inr (11, [vw_files, .ref no, vw_namings, .int 0, .int 0, .ref sk, vw_changes, .ref rr, .int ver, vw_over, .int 1, vw_heads, vw_nexts, vw_sharing]))]) hD hS hA [0] rfl
  refine va_callv (va_runV (As := []) (rest := []) ⟨hx, hb, hml, hown, hts⟩ (m_Vw_leaveOut0 l dC dI cI cB cL cZ cR vw (vw_files) (.ref no) (vw_namings) (.int 0) (.ref sk) (vw_changes) (.ref rr) (.int ver) (vw_over) (.int 1) (vw_heads) (vw_nexts) (vw_sharing) H.size ) (cwV 0 hts (xg_V gw_1012 gw_1014 (xg_p 37 (q := (⟨"PatchStore$View", "leaveOutNameless", "()V"⟩, 14)) (by decide +kernel)) gw_8 gw_1015) rfl rfl rfl (by decide +kernel) ⟨Nat.le_of_ble_eq_true rfl, Nat.le_of_ble_eq_true rfl⟩) ⟨xw_blind, va_recv hK hPc (ci := 11) (q0 := 0) rfl rfl, fun U hU hW => ⟨rfl, by rw [hU], by rw [hU]; exact hPc, va_K.moved hW.alike hK, hDc.weaken (fun _ _ _ _ => trivial)⟩⟩ rfl rfl hl.1 rfl (lv_room (Nat.le_of_ble_eq_true rfl)) d_Vw_load_142 ⟨Nat.le_of_ble_eq_true rfl, Nat.le_of_ble_eq_true rfl⟩) hS (fun q _ h => hFc q h) hFc (fun u9 t H1 locs ht hvm hw hB hz1 hk1 hS => ?_)
  obtain ⟨hP1, hK1, hD1⟩ := hB
  rw [ht] at hP1
  obtain ⟨hP, hD⟩ := va_join (wr := [(rr, .inr (7, [rr_members, rr_digest, rr_size, .int ver, rr_digestVersion])), (sk, .inr (9, [sk_bytes, sk_from, sk_firstDependency, sk_firstChange, sk_dependencies, sk_hashes, sk_byHash, sk_leansOn, sk_leantBy, sk_changes, sk_lines, .int 0])), (no, .inl (cI, 200, .inl no1))]) (w1 := [(vw, .inr (11, [vw_files, .ref no, vw_namings, .int 0, .int 0, .ref sk, vw_changes, .ref rr, .int ver, vw_over, .int 1, vw_heads, vw_nexts, vw_sharing]))]) hP hD [0] [1, 2, 3] rfl rfl (by decide) (by decide) hk1 hFc hP1 hD1
  generalize H1 = H at hP hS ⊢
  have hP : va_P (dC, dI) classes [(rr, .inr (7, [rr_members, rr_digest, rr_size, .int ver, rr_digestVersion])), (sk, .inr (9, [sk_bytes, sk_from, sk_firstDependency, sk_firstChange, sk_dependencies, sk_hashes, sk_byHash, sk_leansOn, sk_leantBy, sk_changes, sk_lines, .int 0])), (no, .inl (cI, 200, .inl no1)), (vw, .inr (11, [vw_files, .ref no, vw_namings, .int 0, .int 0, .ref sk, vw_changes, .ref rr, .int ver, vw_over, .int 1, vw_heads, vw_nexts, vw_sharing]))] H := hP
  have hD : va_D A [(rr, .inr (7, [rr_members, rr_digest, rr_size, .int ver, rr_digestVersion])), (sk, .inr (9, [sk_bytes, sk_from, sk_firstDependency, sk_firstChange, sk_dependencies, sk_hashes, sk_byHash, sk_leansOn, sk_leantBy, sk_changes, sk_lines, .int 0])), (no, .inl (cI, 200, .inl no1)), (vw, .inr (11, [vw_files, .ref no, vw_namings, .int 0, .int 0, .ref sk, vw_changes, .ref rr, .int ver, vw_over, .int 1, vw_heads, vw_nexts, vw_sharing]))] := hD
  have hP := hP.sub (ws' := [(vw, .inr (11, [vw_files, .ref no, vw_namings, .int 0, .int 0, .ref sk, vw_changes, .ref rr, .int ver, vw_over, .int 1, vw_heads, vw_nexts, vw_sharing])), (no, .inl (cI, 200, .inl no1)), (rr, .inr (7, [rr_members, rr_digest, rr_size, .int ver, rr_digestVersion])), (sk, .inr (9, [sk_bytes, sk_from, sk_firstDependency, sk_firstChange, sk_dependencies, sk_hashes, sk_byHash, sk_leansOn, sk_leantBy, sk_changes, sk_lines, .int 0]))]) [3, 2, 0, 1] rfl
  have hD := hD.sub (ws' := [(vw, .inr (11, [vw_files, .ref no, vw_namings, .int 0, .int 0, .ref sk, vw_changes, .ref rr, .int ver, vw_over, .int 1, vw_heads, vw_nexts, vw_sharing])), (no, .inl (cI, 200, .inl no1)), (rr, .inr (7, [rr_members, rr_digest, rr_size, .int ver, rr_digestVersion])), (sk, .inr (9, [sk_bytes, sk_from, sk_firstDependency, sk_firstChange, sk_dependencies, sk_hashes, sk_byHash, sk_leansOn, sk_leantBy, sk_changes, sk_lines, .int 0]))]) [3, 2, 0, 1] (by decide) rfl
  rw [← hQe]
  exact W.vret hx hb hr (fun t ht hW => ⟨⟨no1, rfl, trivial, by rw [ht]; exact hP, va_K.moved hW.alike hK, hD⟩, hS.F ht⟩) hS.2.2 d_Vw_load_145
set_option maxHeartbeats 4000000 in
set_option maxRecDepth 100000 in
/-- fileAt on a fresh object -/
theorem m_PS_fileAt0 (l : Launch) (dC : Nat → ClassId) (dI : Nat → Nat → Nat) (cI cB cL cZ cR : ClassId) (hlt : xl_T l) (h vw no rr sk : Nat) (ps_tape ps_repositories ps_sha ps_stock ps_intake ps_text ps_maker ps_recording ps_tapeLength ps_lastFault vw_files vw_namings vw_changes vw_over vw_heads vw_nexts vw_sharing rr_members rr_digest rr_size rr_digestVersion sk_bytes sk_from sk_firstDependency sk_firstChange sk_dependencies sk_hashes sk_byHash sk_leansOn sk_leantBy sk_changes sk_lines : Value) (ver : Int32) (f0 : Nat → Int32) (p1 : Int32) (sz : Nat) : xc_Met l y_PS_fileAt ws_PS_fileAt ({ frames := 8, cells := 1, slots := 6, locals := 200 }) (xw_Px dC dI [(cI, .int), (cB, .byte), (cL, .long), (cZ, .boolean), (cR, .object "PatchStore$Repository")] [.ref h, .ref rr, .int p1] [(h, .inr (0, [ps_tape, ps_repositories, ps_sha, ps_stock, ps_intake, .ref vw, ps_text, ps_maker, ps_recording, ps_tapeLength, ps_lastFault])), (vw, .inr (11, [vw_files, .ref no, vw_namings, .int 0, .int 0, .ref sk, vw_changes, .null, .int 0, vw_over, .int 0, vw_heads, vw_nexts, vw_sharing])), (no, .inl (cI, 200, .inl f0)), (rr, .inr (7, [rr_members, rr_digest, rr_size, .int ver, rr_digestVersion])), (sk, .inr (9, [sk_bytes, sk_from, sk_firstDependency, sk_firstChange, sk_dependencies, sk_hashes, sk_byHash, sk_leansOn, sk_leantBy, sk_changes, sk_lines, .int 0]))] sz) (xc_Q (S := Nat → Int32) (fun _ (_ : Nat → Int32) => False) (fun C (_ : Nat → Int32) => C = "java/util/NoSuchElementException") (fun u t => xw_B dC dI [(cI, .int), (cB, .byte), (cL, .long), (cZ, .boolean), (cR, .object "PatchStore$Repository")] (va_A [(h, .inr (0, [ps_tape, ps_repositories, ps_sha, ps_stock, ps_intake, .ref vw, ps_text, ps_maker, ps_recording, ps_tapeLength, ps_lastFault])), (vw, .inr (11, [vw_files, .ref no, vw_namings, .int 0, .int 0, .ref sk, vw_changes, .null, .int 0, vw_over, .int 0, vw_heads, vw_nexts, vw_sharing])), (no, .inl (cI, 200, .inl f0)), (rr, .inr (7, [rr_members, rr_digest, rr_size, .int ver, rr_digestVersion])), (sk, .inr (9, [sk_bytes, sk_from, sk_firstDependency, sk_firstChange, sk_dependencies, sk_hashes, sk_byHash, sk_leansOn, sk_leantBy, sk_changes, sk_lines, .int 0]))] sz) [(h, .inr (0, [ps_tape, ps_repositories, ps_sha, ps_stock, ps_intake, .ref vw, ps_text, ps_maker, ps_recording, ps_tapeLength, ps_lastFault])), (vw, .inr (11, [vw_files, .ref no, vw_namings, .int 0, .int 0, .ref sk, vw_changes, .ref rr, .int ver, vw_over, .int 1, vw_heads, vw_nexts, vw_sharing])), (no, .inl (cI, 200, .inl u)), (rr, .inr (7, [rr_members, rr_digest, rr_size, .int ver, rr_digestVersion])), (sk, .inr (9, [sk_bytes, sk_from, sk_firstDependency, sk_firstChange, sk_dependencies, sk_hashes, sk_byHash, sk_leansOn, sk_leantBy, sk_changes, sk_lines, .int 0]))] t) (va_A [(h, .inr (0, [ps_tape, ps_repositories, ps_sha, ps_stock, ps_intake, .ref vw, ps_text, ps_maker, ps_recording, ps_tapeLength, ps_lastFault])), (vw, .inr (11, [vw_files, .ref no, vw_namings, .int 0, .int 0, .ref sk, vw_changes, .null, .int 0, vw_over, .int 0, vw_heads, vw_nexts, vw_sharing])), (no, .inl (cI, 200, .inl f0)), (rr, .inr (7, [rr_members, rr_digest, rr_size, .int ver, rr_digestVersion])), (sk, .inr (9, [sk_bytes, sk_from, sk_firstDependency, sk_firstChange, sk_dependencies, sk_hashes, sk_byHash, sk_leansOn, sk_leantBy, sk_changes, sk_lines, .int 0]))] sz)) 1 6 (va_A [(h, .inr (0, [ps_tape, ps_repositories, ps_sha, ps_stock, ps_intake, .ref vw, ps_text, ps_maker, ps_recording, ps_tapeLength, ps_lastFault])), (vw, .inr (11, [vw_files, .ref no, vw_namings, .int 0, .int 0, .ref sk, vw_changes, .null, .int 0, vw_over, .int 0, vw_heads, vw_nexts, vw_sharing])), (no, .inl (cI, 200, .inl f0)), (rr, .inr (7, [rr_members, rr_digest, rr_size, .int ver, rr_digestVersion])), (sk, .inr (9, [sk_bytes, sk_from, sk_firstDependency, sk_firstChange, sk_dependencies, sk_hashes, sk_byHash, sk_leansOn, sk_leantBy, sk_changes, sk_lines, .int 0]))] sz) := by
  refine xc_ofW (cc := prog_1_method_23_code) (maxL := 3) (ret := (Option.some Jvm.ClassFile.FieldType.int)) (by decide) rfl ?_
  intro p e s m args below meth c s₁ B hml hno hv
  obtain ⟨rfl, hsz, hP, hK, hD0, hN, hTh⟩ := hv
  have htr : e.platform.stackTraces = false := hlt e B.admits
  have hx := B.exec
  have hb := B.bytes
  have hr := B.returns
  have hts0 := atoms_spec (ws := ws_PS_fileAt) B.pre
  have hts : ∀ w ∈ xg_1, w.before _ s = true := fun w h => hts0 w (List.mem_cons_of_mem _ h)
  have hown : s.vm.findClass "PatchStore" = some m.cls := findClass_of_methodNamed B.named
  have hlocks := B.notSynchronized
  subst hsz
  have hD := hD0.self (sz := s.heap.size)
  generalize hAe : va_A [(h, .inr (0, [ps_tape, ps_repositories, ps_sha, ps_stock, ps_intake, .ref vw, ps_text, ps_maker, ps_recording, ps_tapeLength, ps_lastFault])), (vw, .inr (11, [vw_files, .ref no, vw_namings, .int 0, .int 0, .ref sk, vw_changes, .null, .int 0, vw_over, .int 0, vw_heads, vw_nexts, vw_sharing])), (no, .inl (cI, 200, .inl f0)), (rr, .inr (7, [rr_members, rr_digest, rr_size, .int ver, rr_digestVersion])), (sk, .inr (9, [sk_bytes, sk_from, sk_firstDependency, sk_firstChange, sk_dependencies, sk_hashes, sk_byHash, sk_leansOn, sk_leantBy, sk_changes, sk_lines, .int 0]))] s.heap.size = A at hD hTh ⊢
  have hA : ∀ q : Nat, s.heap.size ≤ q → A q := fun q h => by rw [← hAe]; exact Or.inr h
  have hS : va_S A s.heap s.heap [] := va_S.rf
  have hl := lv_entry ([.ref h, .ref rr, .int p1]) (n := 3) (Nat.le_of_ble_eq_true rfl)
  rw [lg_entry_eq]
  generalize (lg_sl ([.ref h, .ref rr, .int p1]) ++ List.replicate (3 - (lg_sl ([.ref h, .ref rr, .int p1])).length) Slot.unset).toArray = ls at hl ⊢
  have hl : lv_has ls 3 [(0, .ref h), (1, .ref rr), (2, .int p1)] := hl
  refine lv_aload_n hx hb d_PS_fileAt_0 rfl (lv_at hl 0 rfl) ?_
  refine va_get (D := (dC, dI)) (ci := 0) (v := .ref vw) (C := R_PS) (T := F_PS) (N := 11) hx hb hts i_PS hown hK hP 0 rfl rfl 5 (by decide) (hts _ gw_553) (fun _ h9 => h9) rfl d_PS_fileAt_1 ?_
  refine lv_aload_n hx hb d_PS_fileAt_4 rfl (lv_at hl 1 rfl) ?_
  have hPc := hP.sub (ws' := [(vw, .inr (11, [vw_files, .ref no, vw_namings, .int 0, .int 0, .ref sk, vw_changes, .null, .int 0, vw_over, .int 0, vw_heads, vw_nexts, vw_sharing])), (no, .inl (cI, 200, .inl f0)), (rr, .inr (7, [rr_members, rr_digest, rr_size, .int ver, rr_digestVersion])), (sk, .inr (9, [sk_bytes, sk_from, sk_firstDependency, sk_firstChange, sk_dependencies, sk_hashes, sk_byHash, sk_leansOn, sk_leantBy, sk_changes, sk_lines, .int 0]))]) [1, 2, 3, 4] rfl
  have hDc := hD.sub (ws' := [(vw, .inr (11, [vw_files, .ref no, vw_namings, .int 0, .int 0, .ref sk, vw_changes, .null, .int 0, vw_over, .int 0, vw_heads, vw_nexts, vw_sharing])), (no, .inl (cI, 200, .inl f0)), (rr, .inr (7, [rr_members, rr_digest, rr_size, .int ver, rr_digestVersion])), (sk, .inr (9, [sk_bytes, sk_from, sk_firstDependency, sk_firstChange, sk_dependencies, sk_hashes, sk_byHash, sk_leansOn, sk_leantBy, sk_changes, sk_lines, .int 0]))]) [1, 2, 3, 4] (by decide) rfl
  have hFc := va_free (wc := [(vw, .inr (11, [vw_files, .ref no, vw_namings, .int 0, .int 0, .ref sk, vw_changes, .null, .int 0, vw_over, .int 0, vw_heads, vw_nexts, vw_sharing])), (no, .inl (cI, 200, .inl f0)), (rr, .inr (7, [rr_members, rr_digest, rr_size, .int ver, rr_digestVersion])), (sk, .inr (9, [sk_bytes, sk_from, sk_firstDependency, sk_firstChange, sk_dependencies, sk_hashes, sk_byHash, sk_leansOn, sk_leantBy, sk_changes, sk_lines, .int 0]))]) hD hS hA [1, 2, 3, 4] rfl
  refine va_callv (va_runV (As := [.ref rr]) (rest := []) ⟨hx, hb, hml, hown, hts⟩ (m_Vw_load0 l dC dI cI cB cL cZ cR vw no rr sk vw_files vw_namings vw_changes vw_over vw_heads vw_nexts vw_sharing rr_members rr_digest rr_size rr_digestVersion sk_bytes sk_from sk_firstDependency sk_firstChange sk_dependencies sk_hashes sk_byHash sk_leansOn sk_leantBy sk_changes sk_lines ver f0 s.heap.size ) (cwV 1 hts (xg_V gw_995 gw_996 gw_997 gw_8 gw_998) rfl rfl rfl (by decide +kernel) ⟨Nat.le_of_ble_eq_true rfl, Nat.le_of_ble_eq_true rfl⟩) ⟨xw_blind, va_recv hK hPc (ci := 11) (q0 := 0) rfl rfl, fun U hU hW => ⟨rfl, by rw [hU], by rw [hU]; exact hPc, va_K.moved hW.alike hK, hDc.weaken (fun _ _ _ _ => trivial)⟩⟩ rfl rfl hl.1 rfl (lv_room (Nat.le_of_ble_eq_true rfl)) d_PS_fileAt_5 ⟨Nat.le_of_ble_eq_true rfl, Nat.le_of_ble_eq_true rfl⟩) hS (fun q _ h => hFc q h) hFc (fun no1 t H1 locs ht hvm hw hB hz1 hk1 hS => ?_)
  obtain ⟨hP1, hK1, hD1⟩ := hB
  rw [ht] at hP1
  obtain ⟨hP, hD⟩ := va_join (wr := [(h, .inr (0, [ps_tape, ps_repositories, ps_sha, ps_stock, ps_intake, .ref vw, ps_text, ps_maker, ps_recording, ps_tapeLength, ps_lastFault]))]) (w1 := [(vw, .inr (11, [vw_files, .ref no, vw_namings, .int 0, .int 0, .ref sk, vw_changes, .ref rr, .int ver, vw_over, .int 1, vw_heads, vw_nexts, vw_sharing])), (no, .inl (cI, 200, .inl no1)), (rr, .inr (7, [rr_members, rr_digest, rr_size, .int ver, rr_digestVersion])), (sk, .inr (9, [sk_bytes, sk_from, sk_firstDependency, sk_firstChange, sk_dependencies, sk_hashes, sk_byHash, sk_leansOn, sk_leantBy, sk_changes, sk_lines, .int 0]))]) hP hD [1, 2, 3, 4] [0] rfl rfl (by decide) (by decide) hk1 hFc hP1 hD1
  generalize H1 = H at hP hS ⊢
  have hP : va_P (dC, dI) classes [(h, .inr (0, [ps_tape, ps_repositories, ps_sha, ps_stock, ps_intake, .ref vw, ps_text, ps_maker, ps_recording, ps_tapeLength, ps_lastFault])), (vw, .inr (11, [vw_files, .ref no, vw_namings, .int 0, .int 0, .ref sk, vw_changes, .ref rr, .int ver, vw_over, .int 1, vw_heads, vw_nexts, vw_sharing])), (no, .inl (cI, 200, .inl no1)), (rr, .inr (7, [rr_members, rr_digest, rr_size, .int ver, rr_digestVersion])), (sk, .inr (9, [sk_bytes, sk_from, sk_firstDependency, sk_firstChange, sk_dependencies, sk_hashes, sk_byHash, sk_leansOn, sk_leantBy, sk_changes, sk_lines, .int 0]))] H := hP
  have hD : va_D A [(h, .inr (0, [ps_tape, ps_repositories, ps_sha, ps_stock, ps_intake, .ref vw, ps_text, ps_maker, ps_recording, ps_tapeLength, ps_lastFault])), (vw, .inr (11, [vw_files, .ref no, vw_namings, .int 0, .int 0, .ref sk, vw_changes, .ref rr, .int ver, vw_over, .int 1, vw_heads, vw_nexts, vw_sharing])), (no, .inl (cI, 200, .inl no1)), (rr, .inr (7, [rr_members, rr_digest, rr_size, .int ver, rr_digestVersion])), (sk, .inr (9, [sk_bytes, sk_from, sk_firstDependency, sk_firstChange, sk_dependencies, sk_hashes, sk_byHash, sk_leansOn, sk_leantBy, sk_changes, sk_lines, .int 0]))] := hD
  refine lv_iload_n hx hb d_PS_fileAt_8 rfl (lv_at hl 2 rfl) ?_
  refine lv_if_lt (tgt := 23) hx hb d_PS_fileAt_9 (by decide) (fun c_9 => ?_) (fun c_9 => ?_)
  · refine xc_thrownew (A := A) (own := "PatchStore") (C := "java/util/NoSuchElementException") (names := ["java/lang/RuntimeException", "java/lang/Exception"]) (i1 := 174) (i2 := 176) hx hb hml hl.1 hown hlocks hno htr (by decide +kernel) (by decide +kernel) (tw_PS_174 hts hN) (tr_PS_174) (ti_PS_174) (hTh.1.kept (fun a h1 h2 => hS.2.1 a h1 h2)) d_PS_fileAt_23 d_PS_fileAt_26 d_PS_fileAt_27 d_PS_fileAt_30 (Nat.le_of_ble_eq_true rfl) (Nat.le_of_ble_eq_true rfl) (Nat.le_of_ble_eq_true rfl) (Nat.le_of_ble_eq_true rfl) (fun x9 t9 H9 e1 e2 e3 hW9 hex => ⟨Or.inr ⟨x9, "java/util/NoSuchElementException", no1, rfl, rfl, hex, (by rw [e1]; exact hP.kept (fun k q hq => e3 q.1 ((hP k q hq).lt))), va_K.moved hW9.alike hK, hD⟩, (by rw [e1]; exact Nat.le_trans hS.1 e2), fun q h1 h2 => by rw [e1]; exact (e3 q (Nat.lt_of_lt_of_le h1 hS.1)).trans (hS.2.1 q h1 h2)⟩) hS.2.2
  · refine lv_iload_n hx hb d_PS_fileAt_12 rfl (lv_at hl 2 rfl) ?_
    refine lv_aload_n hx hb d_PS_fileAt_13 rfl (lv_at hl 0 rfl) ?_
    refine va_get (D := (dC, dI)) (ci := 0) (v := .ref vw) (C := R_PS) (T := F_PS) (N := 11) hx hb hts i_PS hown hK hP 0 rfl rfl 5 (by decide) (hts _ gw_553) (fun _ h9 => h9) rfl d_PS_fileAt_14 ?_
    refine va_get (D := (dC, dI)) (ci := 11) (v := .int 0) (C := R_Vw) (T := F_Vw) (N := 14) hx hb hts i_Vw hown hK hP 1 rfl rfl 3 (by decide) (hts _ gw_327) (fun _ h9 => h9) rfl d_PS_fileAt_17 ?_
    refine lv_icmp_lt (tgt := 31) hx hb d_PS_fileAt_20 (by decide) (fun c_20 => absurd c_20 (c_9)) (fun _ => ?_)
    refine xc_thrownew (A := A) (own := "PatchStore") (C := "java/util/NoSuchElementException") (names := ["java/lang/RuntimeException", "java/lang/Exception"]) (i1 := 174) (i2 := 176) hx hb hml hl.1 hown hlocks hno htr (by decide +kernel) (by decide +kernel) (tw_PS_174 hts hN) (tr_PS_174) (ti_PS_174) (hTh.1.kept (fun a h1 h2 => hS.2.1 a h1 h2)) d_PS_fileAt_23 d_PS_fileAt_26 d_PS_fileAt_27 d_PS_fileAt_30 (Nat.le_of_ble_eq_true rfl) (Nat.le_of_ble_eq_true rfl) (Nat.le_of_ble_eq_true rfl) (Nat.le_of_ble_eq_true rfl) (fun x9 t9 H9 e1 e2 e3 hW9 hex => ⟨Or.inr ⟨x9, "java/util/NoSuchElementException", no1, rfl, rfl, hex, (by rw [e1]; exact hP.kept (fun k q hq => e3 q.1 ((hP k q hq).lt))), va_K.moved hW9.alike hK, hD⟩, (by rw [e1]; exact Nat.le_trans hS.1 e2), fun q h1 h2 => by rw [e1]; exact (e3 q (Nat.lt_of_lt_of_le h1 hS.1)).trans (hS.2.1 q h1 h2)⟩) hS.2.2
