/-! 36.msha1.lean.txt -/
theorem gw_25 : (Jvm.Cond.initialized "java/lang/Integer") ∈ xg_1 := xg_s1 25 rfl rfl
theorem gw_1770 : (Jvm.Cond.methodLink "PatchStoreModel$Digest" (30 : Nat) ({ cls := "PatchStoreModel$Digest", name := "begin", desc := "()V" } : Jvm.MethodName)) ∈ xg_1 := xg_s8 90 rfl rfl
theorem gn_1771 : (Jvm.Cond.declares ({ cls := "PatchStoreModel$Digest", name := "begin", desc := "()V" } : Jvm.MethodName)) ∈ xg_2 := xg_u8 91 rfl rfl
theorem gw_1772 : (Jvm.Cond.sameMethod "PatchStoreModel$Digest" "PatchStoreModel$Digest" "begin" "()V") ∈ xg_1 := xg_s8 92 rfl rfl
theorem gw_1773 : (Jvm.Cond.selects "PatchStoreModel$Sha256" ({ cls := "PatchStoreModel$Digest", name := "begin", desc := "()V" } : Jvm.MethodName) ({ cls := "PatchStoreModel$Sha256", name := "begin", desc := "()V" } : Jvm.MethodName)) ∈ xg_1 := xg_s8 93 rfl rfl
theorem gw_1774 : (Jvm.Cond.instanceMethod ({ cls := "PatchStoreModel$Sha256", name := "begin", desc := "()V" } : Jvm.MethodName)) ∈ xg_1 := xg_s8 94 rfl rfl
theorem gw_1775 : (Jvm.Cond.code ({ cls := "PatchStoreModel$Sha256", name := "begin", desc := "()V" } : Jvm.MethodName) prog_17_method_2_code (2 : Nat) (Option.none : Option Jvm.ClassFile.FieldType)) ∈ xg_1 := xg_s8 95 rfl rfl
theorem gn_1776 : (Jvm.Cond.fieldLinkNest "PatchStoreModel$Sha256" (16 : Nat) "PatchStoreModel" "FIRST" "[J" "PatchStoreModel") ∈ xg_2 := xg_u8 96 rfl rfl
theorem gn_1802 : (Jvm.Cond.methodLinkNest "PatchStoreModel$Sha256" (28 : Nat) ({ cls := "PatchStoreModel", name := "number", desc := "([BII)J" } : Jvm.MethodName) "PatchStoreModel") ∈ xg_2 := xg_u8 122 rfl rfl
theorem gw_1803 : (Jvm.Cond.static ({ cls := "PatchStoreModel", name := "number", desc := "([BII)J" } : Jvm.MethodName)) ∈ xg_1 := xg_s8 123 rfl rfl
theorem gw_1804 : (Jvm.Cond.code ({ cls := "PatchStoreModel", name := "number", desc := "([BII)J" } : Jvm.MethodName) prog_14_method_1_code (6 : Nat) (Option.some Jvm.ClassFile.FieldType.long)) ∈ xg_1 := xg_s8 124 rfl rfl
theorem gw_1805 : (Jvm.Cond.methodLink "PatchStoreModel$Sha256" (32 : Nat) ({ cls := "java/lang/Integer", name := "rotateRight", desc := "(II)I" } : Jvm.MethodName)) ∈ xg_1 := xg_s8 125 rfl rfl
theorem gw_1806 : (Jvm.Cond.static ({ cls := "java/lang/Integer", name := "rotateRight", desc := "(II)I" } : Jvm.MethodName)) ∈ xg_1 := xg_s8 126 rfl rfl
theorem gw_1807 : (Jvm.Cond.code ({ cls := "java/lang/Integer", name := "rotateRight", desc := "(II)I" } : Jvm.MethodName) prog_25_method_51_code (2 : Nat) (Option.some Jvm.ClassFile.FieldType.int)) ∈ xg_1 := xg_s8 127 rfl rfl
def y_Ig_rotateRight : MethodName := ⟨"java/lang/Integer", "rotateRight", "(II)I"⟩
abbrev c_Ig_rotateRight : Cond := (Jvm.Cond.code ({ cls := "java/lang/Integer", name := "rotateRight", desc := "(II)I" } : Jvm.MethodName) prog_25_method_51_code (2 : Nat) (Option.some Jvm.ClassFile.FieldType.int))
abbrev ws_Ig_rotateRight : List Cond := c_Ig_rotateRight :: xg_1
theorem d_Ig_rotateRight_0 : decode prog_25_method_51_code 0 = .ok (.iload_n 0, 1) := by decide +kernel
theorem d_Ig_rotateRight_1 : decode prog_25_method_51_code 1 = .ok (.iload_n 1, 1) := by decide +kernel
theorem d_Ig_rotateRight_2 : decode prog_25_method_51_code 2 = .ok (.iushr, 1) := by decide +kernel
theorem d_Ig_rotateRight_3 : decode prog_25_method_51_code 3 = .ok (.iload_n 0, 1) := by decide +kernel
theorem d_Ig_rotateRight_4 : decode prog_25_method_51_code 4 = .ok (.iload_n 1, 1) := by decide +kernel
theorem d_Ig_rotateRight_5 : decode prog_25_method_51_code 5 = .ok (.ineg, 1) := by decide +kernel
theorem d_Ig_rotateRight_6 : decode prog_25_method_51_code 6 = .ok (.ishl, 1) := by decide +kernel
theorem d_Ig_rotateRight_7 : decode prog_25_method_51_code 7 = .ok (.ior, 1) := by decide +kernel
theorem d_Ig_rotateRight_8 : decode prog_25_method_51_code 8 = .ok (.ireturn, 1) := by decide +kernel
def y_Md_number : MethodName := ⟨"PatchStoreModel", "number", "([BII)J"⟩
abbrev c_Md_number : Cond := (Jvm.Cond.code ({ cls := "PatchStoreModel", name := "number", desc := "([BII)J" } : Jvm.MethodName) prog_14_method_1_code (6 : Nat) (Option.some Jvm.ClassFile.FieldType.long))
abbrev ws_Md_number : List Cond := c_Md_number :: xg_1
theorem d_Md_number_0 : decode prog_14_method_1_code 0 = .ok (.lconst 0, 1) := by decide +kernel
theorem d_Md_number_1 : decode prog_14_method_1_code 1 = .ok (.lstore_n 3, 1) := by decide +kernel
theorem d_Md_number_2 : decode prog_14_method_1_code 2 = .ok (.iconst 0, 1) := by decide +kernel
theorem d_Md_number_3 : decode prog_14_method_1_code 3 = .ok (.istore 5, 2) := by decide +kernel
theorem d_Md_number_5 : decode prog_14_method_1_code 5 = .ok (.iload 5, 2) := by decide +kernel
theorem d_Md_number_7 : decode prog_14_method_1_code 7 = .ok (.iload_n 2, 1) := by decide +kernel
theorem d_Md_number_8 : decode prog_14_method_1_code 8 = .ok (.if_icmp .ge 26, 3) := by decide +kernel
theorem d_Md_number_11 : decode prog_14_method_1_code 11 = .ok (.lload_n 3, 1) := by decide +kernel
theorem d_Md_number_12 : decode prog_14_method_1_code 12 = .ok (.bipush 8, 2) := by decide +kernel
theorem d_Md_number_14 : decode prog_14_method_1_code 14 = .ok (.lshl, 1) := by decide +kernel
theorem d_Md_number_15 : decode prog_14_method_1_code 15 = .ok (.aload_n 0, 1) := by decide +kernel
theorem d_Md_number_16 : decode prog_14_method_1_code 16 = .ok (.iload_n 1, 1) := by decide +kernel
theorem d_Md_number_17 : decode prog_14_method_1_code 17 = .ok (.iload 5, 2) := by decide +kernel
theorem d_Md_number_19 : decode prog_14_method_1_code 19 = .ok (.iadd, 1) := by decide +kernel
theorem d_Md_number_20 : decode prog_14_method_1_code 20 = .ok (.baload, 1) := by decide +kernel
theorem d_Md_number_21 : decode prog_14_method_1_code 21 = .ok (.sipush 255, 3) := by decide +kernel
theorem d_Md_number_24 : decode prog_14_method_1_code 24 = .ok (.iand, 1) := by decide +kernel
theorem d_Md_number_25 : decode prog_14_method_1_code 25 = .ok (.i2l, 1) := by decide +kernel
theorem d_Md_number_26 : decode prog_14_method_1_code 26 = .ok (.lor, 1) := by decide +kernel
theorem d_Md_number_27 : decode prog_14_method_1_code 27 = .ok (.lstore_n 3, 1) := by decide +kernel
theorem d_Md_number_28 : decode prog_14_method_1_code 28 = .ok (.iinc 5 1, 3) := by decide +kernel
theorem d_Md_number_31 : decode prog_14_method_1_code 31 = .ok (.goto (-26), 3) := by decide +kernel
theorem d_Md_number_34 : decode prog_14_method_1_code 34 = .ok (.lload_n 3, 1) := by decide +kernel
theorem d_Md_number_35 : decode prog_14_method_1_code 35 = .ok (.lreturn, 1) := by decide +kernel
def y_MS_begin : MethodName := ⟨"PatchStoreModel$Sha256", "begin", "()V"⟩
abbrev c_MS_begin : Cond := (Jvm.Cond.code ({ cls := "PatchStoreModel$Sha256", name := "begin", desc := "()V" } : Jvm.MethodName) prog_17_method_2_code (2 : Nat) (Option.none : Option Jvm.ClassFile.FieldType))
abbrev ws_MS_begin : List Cond := c_MS_begin :: xg_1
theorem d_MS_begin_0 : decode prog_17_method_2_code 0 = .ok (.iconst 0, 1) := by decide +kernel
theorem d_MS_begin_1 : decode prog_17_method_2_code 1 = .ok (.istore_n 1, 1) := by decide +kernel
theorem d_MS_begin_2 : decode prog_17_method_2_code 2 = .ok (.iload_n 1, 1) := by decide +kernel
theorem d_MS_begin_3 : decode prog_17_method_2_code 3 = .ok (.bipush 8, 2) := by decide +kernel
theorem d_MS_begin_5 : decode prog_17_method_2_code 5 = .ok (.if_icmp .ge 24, 3) := by decide +kernel
theorem d_MS_begin_8 : decode prog_17_method_2_code 8 = .ok (.aload_n 0, 1) := by decide +kernel
theorem d_MS_begin_9 : decode prog_17_method_2_code 9 = .ok (.getfield 7, 3) := by decide +kernel
theorem d_MS_begin_12 : decode prog_17_method_2_code 12 = .ok (.iload_n 1, 1) := by decide +kernel
theorem d_MS_begin_13 : decode prog_17_method_2_code 13 = .ok (.getstatic 16, 3) := by decide +kernel
theorem d_MS_begin_16 : decode prog_17_method_2_code 16 = .ok (.iload_n 1, 1) := by decide +kernel
theorem d_MS_begin_17 : decode prog_17_method_2_code 17 = .ok (.laload, 1) := by decide +kernel
theorem d_MS_begin_18 : decode prog_17_method_2_code 18 = .ok (.bipush 32, 2) := by decide +kernel
theorem d_MS_begin_20 : decode prog_17_method_2_code 20 = .ok (.lushr, 1) := by decide +kernel
theorem d_MS_begin_21 : decode prog_17_method_2_code 21 = .ok (.l2i, 1) := by decide +kernel
theorem d_MS_begin_22 : decode prog_17_method_2_code 22 = .ok (.iastore, 1) := by decide +kernel
theorem d_MS_begin_23 : decode prog_17_method_2_code 23 = .ok (.iinc 1 1, 3) := by decide +kernel
theorem d_MS_begin_26 : decode prog_17_method_2_code 26 = .ok (.goto (-24), 3) := by decide +kernel
theorem d_MS_begin_29 : decode prog_17_method_2_code 29 = .ok (.return_, 1) := by decide +kernel
def y_MD_reset : MethodName := ⟨"PatchStoreModel$Digest", "reset", "()V"⟩
abbrev c_MD_reset : Cond := (Jvm.Cond.code ({ cls := "PatchStoreModel$Digest", name := "reset", desc := "()V" } : Jvm.MethodName) prog_15_method_6_code (1 : Nat) (Option.none : Option Jvm.ClassFile.FieldType))
abbrev ws_MD_reset : List Cond := c_MD_reset :: xg_1
theorem d_MD_reset_0 : decode prog_15_method_6_code 0 = .ok (.aload_n 0, 1) := by decide +kernel
theorem d_MD_reset_1 : decode prog_15_method_6_code 1 = .ok (.iconst 0, 1) := by decide +kernel
theorem d_MD_reset_2 : decode prog_15_method_6_code 2 = .ok (.putfield 7, 3) := by decide +kernel
theorem d_MD_reset_5 : decode prog_15_method_6_code 5 = .ok (.aload_n 0, 1) := by decide +kernel
theorem d_MD_reset_6 : decode prog_15_method_6_code 6 = .ok (.lconst 0, 1) := by decide +kernel
theorem d_MD_reset_7 : decode prog_15_method_6_code 7 = .ok (.putfield 13, 3) := by decide +kernel
theorem d_MD_reset_10 : decode prog_15_method_6_code 10 = .ok (.aload_n 0, 1) := by decide +kernel
theorem d_MD_reset_11 : decode prog_15_method_6_code 11 = .ok (.invokevirtual 30, 3) := by decide +kernel
theorem d_MD_reset_14 : decode prog_15_method_6_code 14 = .ok (.return_, 1) := by decide +kernel
def y_MS_spread : MethodName := ⟨"PatchStoreModel$Sha256", "spread", "([BI)V"⟩
abbrev c_MS_spread : Cond := (Jvm.Cond.code ({ cls := "PatchStoreModel$Sha256", name := "spread", desc := "([BI)V" } : Jvm.MethodName) prog_17_method_4_code (8 : Nat) (Option.none : Option Jvm.ClassFile.FieldType))
abbrev ws_MS_spread : List Cond := c_MS_spread :: xg_1
theorem d_MS_spread_0 : decode prog_17_method_4_code 0 = .ok (.iconst 0, 1) := by decide +kernel
theorem d_MS_spread_1 : decode prog_17_method_4_code 1 = .ok (.istore_n 3, 1) := by decide +kernel
theorem d_MS_spread_2 : decode prog_17_method_4_code 2 = .ok (.iload_n 3, 1) := by decide +kernel
theorem d_MS_spread_3 : decode prog_17_method_4_code 3 = .ok (.bipush 16, 2) := by decide +kernel
theorem d_MS_spread_5 : decode prog_17_method_4_code 5 = .ok (.if_icmp .ge 26, 3) := by decide +kernel
theorem d_MS_spread_8 : decode prog_17_method_4_code 8 = .ok (.aload_n 0, 1) := by decide +kernel
theorem d_MS_spread_9 : decode prog_17_method_4_code 9 = .ok (.getfield 13, 3) := by decide +kernel
theorem d_MS_spread_12 : decode prog_17_method_4_code 12 = .ok (.iload_n 3, 1) := by decide +kernel
theorem d_MS_spread_13 : decode prog_17_method_4_code 13 = .ok (.aload_n 1, 1) := by decide +kernel
theorem d_MS_spread_14 : decode prog_17_method_4_code 14 = .ok (.iload_n 2, 1) := by decide +kernel
theorem d_MS_spread_15 : decode prog_17_method_4_code 15 = .ok (.iconst 4, 1) := by decide +kernel
theorem d_MS_spread_16 : decode prog_17_method_4_code 16 = .ok (.iload_n 3, 1) := by decide +kernel
theorem d_MS_spread_17 : decode prog_17_method_4_code 17 = .ok (.imul, 1) := by decide +kernel
theorem d_MS_spread_18 : decode prog_17_method_4_code 18 = .ok (.iadd, 1) := by decide +kernel
theorem d_MS_spread_19 : decode prog_17_method_4_code 19 = .ok (.iconst 4, 1) := by decide +kernel
theorem d_MS_spread_20 : decode prog_17_method_4_code 20 = .ok (.invokestatic 28, 3) := by decide +kernel
theorem d_MS_spread_23 : decode prog_17_method_4_code 23 = .ok (.l2i, 1) := by decide +kernel
theorem d_MS_spread_24 : decode prog_17_method_4_code 24 = .ok (.iastore, 1) := by decide +kernel
theorem d_MS_spread_25 : decode prog_17_method_4_code 25 = .ok (.iinc 3 1, 3) := by decide +kernel
theorem d_MS_spread_28 : decode prog_17_method_4_code 28 = .ok (.goto (-26), 3) := by decide +kernel
theorem d_MS_spread_31 : decode prog_17_method_4_code 31 = .ok (.bipush 16, 2) := by decide +kernel
theorem d_MS_spread_33 : decode prog_17_method_4_code 33 = .ok (.istore_n 3, 1) := by decide +kernel
theorem d_MS_spread_34 : decode prog_17_method_4_code 34 = .ok (.iload_n 3, 1) := by decide +kernel
theorem d_MS_spread_35 : decode prog_17_method_4_code 35 = .ok (.bipush 64, 2) := by decide +kernel
theorem d_MS_spread_37 : decode prog_17_method_4_code 37 = .ok (.if_icmp .ge 106, 3) := by decide +kernel
theorem d_MS_spread_40 : decode prog_17_method_4_code 40 = .ok (.aload_n 0, 1) := by decide +kernel
theorem d_MS_spread_41 : decode prog_17_method_4_code 41 = .ok (.getfield 13, 3) := by decide +kernel
theorem d_MS_spread_44 : decode prog_17_method_4_code 44 = .ok (.iload_n 3, 1) := by decide +kernel
theorem d_MS_spread_45 : decode prog_17_method_4_code 45 = .ok (.bipush 15, 2) := by decide +kernel
theorem d_MS_spread_47 : decode prog_17_method_4_code 47 = .ok (.isub, 1) := by decide +kernel
theorem d_MS_spread_48 : decode prog_17_method_4_code 48 = .ok (.iaload, 1) := by decide +kernel
theorem d_MS_spread_49 : decode prog_17_method_4_code 49 = .ok (.istore 4, 2) := by decide +kernel
theorem d_MS_spread_51 : decode prog_17_method_4_code 51 = .ok (.aload_n 0, 1) := by decide +kernel
theorem d_MS_spread_52 : decode prog_17_method_4_code 52 = .ok (.getfield 13, 3) := by decide +kernel
theorem d_MS_spread_55 : decode prog_17_method_4_code 55 = .ok (.iload_n 3, 1) := by decide +kernel
theorem d_MS_spread_56 : decode prog_17_method_4_code 56 = .ok (.iconst 2, 1) := by decide +kernel
theorem d_MS_spread_57 : decode prog_17_method_4_code 57 = .ok (.isub, 1) := by decide +kernel
theorem d_MS_spread_58 : decode prog_17_method_4_code 58 = .ok (.iaload, 1) := by decide +kernel
theorem d_MS_spread_59 : decode prog_17_method_4_code 59 = .ok (.istore 5, 2) := by decide +kernel
theorem d_MS_spread_61 : decode prog_17_method_4_code 61 = .ok (.iload 4, 2) := by decide +kernel
theorem d_MS_spread_63 : decode prog_17_method_4_code 63 = .ok (.bipush 7, 2) := by decide +kernel
theorem d_MS_spread_65 : decode prog_17_method_4_code 65 = .ok (.invokestatic 32, 3) := by decide +kernel
theorem d_MS_spread_68 : decode prog_17_method_4_code 68 = .ok (.iload 4, 2) := by decide +kernel
theorem d_MS_spread_70 : decode prog_17_method_4_code 70 = .ok (.bipush 18, 2) := by decide +kernel
theorem d_MS_spread_72 : decode prog_17_method_4_code 72 = .ok (.invokestatic 32, 3) := by decide +kernel
theorem d_MS_spread_75 : decode prog_17_method_4_code 75 = .ok (.ixor, 1) := by decide +kernel
theorem d_MS_spread_76 : decode prog_17_method_4_code 76 = .ok (.iload 4, 2) := by decide +kernel
theorem d_MS_spread_78 : decode prog_17_method_4_code 78 = .ok (.iconst 3, 1) := by decide +kernel
theorem d_MS_spread_79 : decode prog_17_method_4_code 79 = .ok (.iushr, 1) := by decide +kernel
theorem d_MS_spread_80 : decode prog_17_method_4_code 80 = .ok (.ixor, 1) := by decide +kernel
theorem d_MS_spread_81 : decode prog_17_method_4_code 81 = .ok (.istore 6, 2) := by decide +kernel
theorem d_MS_spread_83 : decode prog_17_method_4_code 83 = .ok (.iload 5, 2) := by decide +kernel
theorem d_MS_spread_85 : decode prog_17_method_4_code 85 = .ok (.bipush 17, 2) := by decide +kernel
theorem d_MS_spread_87 : decode prog_17_method_4_code 87 = .ok (.invokestatic 32, 3) := by decide +kernel
theorem d_MS_spread_90 : decode prog_17_method_4_code 90 = .ok (.iload 5, 2) := by decide +kernel
theorem d_MS_spread_92 : decode prog_17_method_4_code 92 = .ok (.bipush 19, 2) := by decide +kernel
theorem d_MS_spread_94 : decode prog_17_method_4_code 94 = .ok (.invokestatic 32, 3) := by decide +kernel
theorem d_MS_spread_97 : decode prog_17_method_4_code 97 = .ok (.ixor, 1) := by decide +kernel
theorem d_MS_spread_98 : decode prog_17_method_4_code 98 = .ok (.iload 5, 2) := by decide +kernel
theorem d_MS_spread_100 : decode prog_17_method_4_code 100 = .ok (.bipush 10, 2) := by decide +kernel
theorem d_MS_spread_102 : decode prog_17_method_4_code 102 = .ok (.iushr, 1) := by decide +kernel
theorem d_MS_spread_103 : decode prog_17_method_4_code 103 = .ok (.ixor, 1) := by decide +kernel
theorem d_MS_spread_104 : decode prog_17_method_4_code 104 = .ok (.istore 7, 2) := by decide +kernel
theorem d_MS_spread_106 : decode prog_17_method_4_code 106 = .ok (.aload_n 0, 1) := by decide +kernel
theorem d_MS_spread_107 : decode prog_17_method_4_code 107 = .ok (.getfield 13, 3) := by decide +kernel
theorem d_MS_spread_110 : decode prog_17_method_4_code 110 = .ok (.iload_n 3, 1) := by decide +kernel
theorem d_MS_spread_111 : decode prog_17_method_4_code 111 = .ok (.aload_n 0, 1) := by decide +kernel
theorem d_MS_spread_112 : decode prog_17_method_4_code 112 = .ok (.getfield 13, 3) := by decide +kernel
theorem d_MS_spread_115 : decode prog_17_method_4_code 115 = .ok (.iload_n 3, 1) := by decide +kernel
theorem d_MS_spread_116 : decode prog_17_method_4_code 116 = .ok (.bipush 16, 2) := by decide +kernel
theorem d_MS_spread_118 : decode prog_17_method_4_code 118 = .ok (.isub, 1) := by decide +kernel
theorem d_MS_spread_119 : decode prog_17_method_4_code 119 = .ok (.iaload, 1) := by decide +kernel
theorem d_MS_spread_120 : decode prog_17_method_4_code 120 = .ok (.iload 6, 2) := by decide +kernel
theorem d_MS_spread_122 : decode prog_17_method_4_code 122 = .ok (.iadd, 1) := by decide +kernel
theorem d_MS_spread_123 : decode prog_17_method_4_code 123 = .ok (.aload_n 0, 1) := by decide +kernel
theorem d_MS_spread_124 : decode prog_17_method_4_code 124 = .ok (.getfield 13, 3) := by decide +kernel
theorem d_MS_spread_127 : decode prog_17_method_4_code 127 = .ok (.iload_n 3, 1) := by decide +kernel
theorem d_MS_spread_128 : decode prog_17_method_4_code 128 = .ok (.bipush 7, 2) := by decide +kernel
theorem d_MS_spread_130 : decode prog_17_method_4_code 130 = .ok (.isub, 1) := by decide +kernel
theorem d_MS_spread_131 : decode prog_17_method_4_code 131 = .ok (.iaload, 1) := by decide +kernel
theorem d_MS_spread_132 : decode prog_17_method_4_code 132 = .ok (.iadd, 1) := by decide +kernel
theorem d_MS_spread_133 : decode prog_17_method_4_code 133 = .ok (.iload 7, 2) := by decide +kernel
theorem d_MS_spread_135 : decode prog_17_method_4_code 135 = .ok (.iadd, 1) := by decide +kernel
theorem d_MS_spread_136 : decode prog_17_method_4_code 136 = .ok (.iastore, 1) := by decide +kernel
theorem d_MS_spread_137 : decode prog_17_method_4_code 137 = .ok (.iinc 3 1, 3) := by decide +kernel
theorem d_MS_spread_140 : decode prog_17_method_4_code 140 = .ok (.goto (-106), 3) := by decide +kernel
theorem d_MS_spread_143 : decode prog_17_method_4_code 143 = .ok (.return_, 1) := by decide +kernel
def sh_rr (x k : Int32) : Int32 := sh_ur x k ||| (x <<< ((-k) &&& 31))
theorem sh_rr_7 (x : Int32) : sh_rr x 7 = sh_ur x 7 ||| sh_sl x 25 := by unfold sh_rr sh_sl; rw [show (-7 : Int32) &&& 31 = 25 &&& 31 from by decide]
theorem sh_rr_18 (x : Int32) : sh_rr x 18 = sh_ur x 18 ||| sh_sl x 14 := by unfold sh_rr sh_sl; rw [show (-18 : Int32) &&& 31 = 14 &&& 31 from by decide]
theorem sh_rr_17 (x : Int32) : sh_rr x 17 = sh_ur x 17 ||| sh_sl x 15 := by unfold sh_rr sh_sl; rw [show (-17 : Int32) &&& 31 = 15 &&& 31 from by decide]
theorem sh_rr_19 (x : Int32) : sh_rr x 19 = sh_ur x 19 ||| sh_sl x 13 := by unfold sh_rr sh_sl; rw [show (-19 : Int32) &&& 31 = 13 &&& 31 from by decide]
theorem sh_rr_6 (x : Int32) : sh_rr x 6 = sh_ur x 6 ||| sh_sl x 26 := by unfold sh_rr sh_sl; rw [show (-6 : Int32) &&& 31 = 26 &&& 31 from by decide]
theorem sh_rr_11 (x : Int32) : sh_rr x 11 = sh_ur x 11 ||| sh_sl x 21 := by unfold sh_rr sh_sl; rw [show (-11 : Int32) &&& 31 = 21 &&& 31 from by decide]
theorem sh_rr_25 (x : Int32) : sh_rr x 25 = sh_ur x 25 ||| sh_sl x 7 := by unfold sh_rr sh_sl; rw [show (-25 : Int32) &&& 31 = 7 &&& 31 from by decide]
theorem sh_rr_2 (x : Int32) : sh_rr x 2 = sh_ur x 2 ||| sh_sl x 30 := by unfold sh_rr sh_sl; rw [show (-2 : Int32) &&& 31 = 30 &&& 31 from by decide]
theorem sh_rr_13 (x : Int32) : sh_rr x 13 = sh_ur x 13 ||| sh_sl x 19 := by unfold sh_rr sh_sl; rw [show (-13 : Int32) &&& 31 = 19 &&& 31 from by decide]
theorem sh_rr_22 (x : Int32) : sh_rr x 22 = sh_ur x 22 ||| sh_sl x 10 := by unfold sh_rr sh_sl; rw [show (-22 : Int32) &&& 31 = 10 &&& 31 from by decide]
def md_nb (v : Int64) (x : Int32) : Int64 := (v <<< ((8 : Int32).toInt64 &&& 63)) ||| (x &&& 255).toInt64
def md_num (g : Nat → Int32) (a : Nat) : Int64 := md_nb (md_nb (md_nb (md_nb 0 (g a)) (g (a + 1))) (g (a + 2))) (g (a + 3))
theorem md_nb32 (v : Int64) (x : Int32) : (md_nb v x).toInt32 = (v.toInt32 <<< (8 : Int32)) ||| (x &&& 255) := by
  unfold md_nb
  rw [show ((8 : Int32).toInt64 &&& 63) = 8 from by decide]
  apply Int32.toBitVec_inj.mp
  apply BitVec.eq_of_getLsbD_eq
  intro i hi
  simp [Int64.toBitVec_toInt32, BitVec.getLsbD_or]
  rw [BitVec.signExtend_eq_setWidth_of_le _ (by decide), BitVec.signExtend_eq_setWidth_of_le _ (by decide)]
  simp only [BitVec.getLsbD_setWidth, BitVec.getLsbD_shiftLeft]
  by_cases h8 : i < 8
  · simp [h8]
  · have h64 : i < 64 := by omega
    have h24 : i - 8 < 32 := by omega
    simp [h8, h64, hi, h24]
theorem md_255 : ∀ j, j < 8 → (255#32).getLsbD j = true := by decide
theorem md_num32 (g : Nat → Int32) (a : Nat) : (md_num g a).toInt32 = ((sh_sl (g a) 24 ||| sh_sl (g (a + 1) &&& 255) 16) ||| sh_sl (g (a + 2) &&& 255) 8) ||| (g (a + 3) &&& 255) := by
  unfold md_num
  rw [md_nb32, md_nb32, md_nb32, md_nb32]
  generalize g a = b0; generalize g (a + 1) = b1; generalize g (a + 2) = b2; generalize g (a + 3) = b3
  unfold sh_sl
  rw [show (24 : Int32) &&& 31 = 24 from by decide, show (16 : Int32) &&& 31 = 16 from by decide, show (8 : Int32) &&& 31 = 8 from by decide]
  congr 1
  rw [show (0 : Int64).toInt32 <<< (8 : Int32) = 0 from by decide]
  apply Int32.toBitVec_inj.mp
  apply BitVec.eq_of_getLsbD_eq
  intro i hi
  simp [BitVec.getLsbD_or]
  rw [show i - 8 - 8 - 8 = i - 24 by omega, show i - 8 - 8 = i - 16 by omega]
  by_cases h1 : i < 8
  · simp [h1, show i < 16 by omega, show i < 24 by omega]
  · by_cases h2 : i < 16
    · simp [h1, h2, hi, show i < 24 by omega, show i - 8 < 8 by omega]
    · by_cases h3 : i < 24
      · simp [h1, h2, h3, hi, show ¬ i - 8 < 8 by omega, show i - 8 < 32 by omega, show i - 16 < 8 by omega]
      · simp [h1, h2, h3, hi, show ¬ i - 8 < 8 by omega, show i - 8 < 32 by omega, show ¬ i - 16 < 8 by omega, show i - 16 < 32 by omega, md_255 (i - 24) (by omega)]
theorem md_first : ∀ j, j < 8 → ((sh_FIRST j).toUInt64 >>> ((32 : Int32).toInt64.toUInt64 &&& Int64.toUInt64 63)).toInt64.toInt32 = sh_START j := by decide +kernel
theorem md_root : ∀ j, j < 64 → ((sh_ROOTS j).toUInt64 >>> ((32 : Int32).toInt64.toUInt64 &&& Int64.toUInt64 63)).toInt64.toInt32 = sh_ROUND j := by decide +kernel
set_option maxHeartbeats 4000000 in
set_option maxRecDepth 100000 in
/-- Integer.rotateRight -/
theorem m_Ig_rotR (l : Launch) (dC : Nat → ClassId) (dI : Nat → Nat → Nat) (cI cB cL cZ cR : ClassId) (x k : Int32) (sz : Nat) : Met l y_Ig_rotateRight ws_Ig_rotateRight ({ frames := 0, cells := 0, slots := 0, locals := 0 }) (xw_Pc dC dI [(cI, .int), (cB, .byte), (cL, .long), (cZ, .boolean), (cR, .object "PatchStore$Repository")] [.int x, .int k] [] sz) (va_Qi (fun (r : Int32) (_ : Unit) => r = sh_rr x k) (fun _ t => xw_B dC dI [(cI, .int), (cB, .byte), (cL, .long), (cZ, .boolean), (cR, .object "PatchStore$Repository")] (va_A [] sz) [] t) (va_A [] sz)) 0 0 (va_A [] sz) := by
  refine Met.ofW (cc := prog_25_method_51_code) (maxL := 2) (ret := (Option.some Jvm.ClassFile.FieldType.int)) (by decide) rfl ?_
  intro p e s m args below meth c s₁ B hml hv
  obtain ⟨rfl, hsz, hP, hK, hD0⟩ := hv
  have hx := B.exec
  have hb := B.bytes
  have hr := B.returns
  have hts0 := atoms_spec (ws := ws_Ig_rotateRight) B.pre
  have hts : ∀ w ∈ xg_1, w.before _ s = true := fun w h => hts0 w (List.mem_cons_of_mem _ h)
  have hown : s.vm.findClass "java/lang/Integer" = some m.cls := findClass_of_methodNamed B.named
  have hlocks := B.notSynchronized
  subst hsz
  have hD := hD0.self (sz := s.heap.size)
  generalize hAe : va_A [] s.heap.size = A at hD ⊢
  have hA : ∀ q : Nat, s.heap.size ≤ q → A q := fun q h => by rw [← hAe]; exact Or.inr h
  have hS : va_S A s.heap s.heap [] := va_S.rf
  have hl := lv_entry ([.int x, .int k]) (n := 2) (Nat.le_of_ble_eq_true rfl)
  rw [lg_entry_eq]
  generalize (lg_sl ([.int x, .int k]) ++ List.replicate (2 - (lg_sl ([.int x, .int k])).length) Slot.unset).toArray = ls at hl ⊢
  have hl : lv_has ls 2 [(0, .int x), (1, .int k)] := hl
  refine lv_iload_n hx hb d_Ig_rotateRight_0 rfl (lv_at hl 0 rfl) ?_
  refine lv_iload_n hx hb d_Ig_rotateRight_1 rfl (lv_at hl 1 rfl) ?_
  refine lv_iushr hx hb d_Ig_rotateRight_2 rfl ?_
  refine lv_iload_n hx hb d_Ig_rotateRight_3 rfl (lv_at hl 0 rfl) ?_
  refine lv_iload_n hx hb d_Ig_rotateRight_4 rfl (lv_at hl 1 rfl) ?_
  refine lv_ineg hx hb d_Ig_rotateRight_5 ?_
  refine lv_ishl hx hb d_Ig_rotateRight_6 ?_
  refine lv_ior hx hb d_Ig_rotateRight_7 ?_
  refine lv_topi (fun x_1 ex_1 => ?_)
  obtain rfl : x_1 = sh_rr x k := by rw [ex_1]; first | done | (rfl)
  exact W.iret (v := sh_rr x k) hx hb hr (fun t ht hW => ⟨⟨_, (), rfl, rfl, by rw [ht]; exact hP, va_K.moved hW.alike hK, hD⟩, hS.F ht⟩) hS.2.2 d_Ig_rotateRight_8
set_option maxHeartbeats 4000000 in
set_option maxRecDepth 100000 in
/-- number of four bytes -/
theorem m_Md_number4 (l : Launch) (dC : Nat → ClassId) (dI : Nat → Nat → Nat) (cI cB cL cZ cR : ClassId) (ar N a : Nat) (g : Nat → Int32) (sz : Nat) (hN : N < 2 ^ 31) (haN : a + 4 ≤ N) : Met l y_Md_number ws_Md_number ({ frames := 0, cells := 0, slots := 0, locals := 0 }) (xw_Pc dC dI [(cI, .int), (cB, .byte), (cL, .long), (cZ, .boolean), (cR, .object "PatchStore$Repository")] [.ref ar, .int (nI a), .int 4] [(ar, .inl (cB, N, .inl g))] sz) (va_Ql (fun (r : Int64) (_ : Unit) => r = md_num g a) (fun _ t => xw_B dC dI [(cI, .int), (cB, .byte), (cL, .long), (cZ, .boolean), (cR, .object "PatchStore$Repository")] (va_A [(ar, .inl (cB, N, .inl g))] sz) [(ar, .inl (cB, N, .inl g))] t) (va_A [(ar, .inl (cB, N, .inl g))] sz)) 0 0 (va_A [(ar, .inl (cB, N, .inl g))] sz) := by
  refine Met.ofW (cc := prog_14_method_1_code) (maxL := 6) (ret := (Option.some Jvm.ClassFile.FieldType.long)) (by decide) rfl ?_
  intro p e s m args below meth c s₁ B hml hv
  obtain ⟨rfl, hsz, hP, hK, hD0⟩ := hv
  have hx := B.exec
  have hb := B.bytes
  have hr := B.returns
  have hts0 := atoms_spec (ws := ws_Md_number) B.pre
  have hts : ∀ w ∈ xg_1, w.before _ s = true := fun w h => hts0 w (List.mem_cons_of_mem _ h)
  have hown : s.vm.findClass "PatchStoreModel" = some m.cls := findClass_of_methodNamed B.named
  have hlocks := B.notSynchronized
  subst hsz
  have hD := hD0.self (sz := s.heap.size)
  generalize hAe : va_A [(ar, .inl (cB, N, .inl g))] s.heap.size = A at hD ⊢
  have hA : ∀ q : Nat, s.heap.size ≤ q → A q := fun q h => by rw [← hAe]; exact Or.inr h
  have hS : va_S A s.heap s.heap [] := va_S.rf
  have hl := lv_entry ([.ref ar, .int (nI a), .int 4]) (n := 6) (Nat.le_of_ble_eq_true rfl)
  rw [lg_entry_eq]
  generalize (lg_sl ([.ref ar, .int (nI a), .int 4]) ++ List.replicate (6 - (lg_sl ([.ref ar, .int (nI a), .int 4])).length) Slot.unset).toArray = ls at hl ⊢
  have hl : lv_has ls 6 [(0, .ref ar), (1, .int (nI a)), (2, .int 4)] := hl
  refine lv_lconst (v := 0) hx hb d_Md_number_0 (by decide) ?_
  refine lv_lstore_n (lv' := [(3, .long 0), (0, .ref ar), (1, .int (nI a)), (2, .int 4)]) hx hb d_Md_number_1 rfl hl (by decide) rfl (fun ls hl => ?_)
  refine lv_iconst (v := 0) hx hb d_Md_number_2 (by decide) ?_
  refine lv_istore (lv' := [(5, .int 0), (3, .long 0), (0, .ref ar), (1, .int (nI a)), (2, .int 4)]) hx hb d_Md_number_3 hl (by decide) rfl (fun ls hl => ?_)
  refine lv_iload hx hb d_Md_number_5 (lv_at hl 0 rfl) ?_
  refine lv_iload_n hx hb d_Md_number_7 rfl (lv_at hl 4 rfl) ?_
  refine lv_icmp_ge (tgt := 34) hx hb d_Md_number_8 (by decide) (fun c_8 => absurd c_8 (by decide)) (fun _ => ?_)
  refine lv_lload_n hx hb d_Md_number_11 rfl (lv_at hl 1 rfl) ?_
  refine lv_bipush (v := 8) hx hb d_Md_number_12 (by decide) ?_
  refine lv_lshl hx hb d_Md_number_14 rfl ?_
  refine lv_aload_n hx hb d_Md_number_15 rfl (lv_at hl 2 rfl) ?_
  refine lv_iload_n hx hb d_Md_number_16 rfl (lv_at hl 3 rfl) ?_
  refine lv_iload hx hb d_Md_number_17 (lv_at hl 0 rfl) ?_
  refine lv_iadd hx hb d_Md_number_19 ?_
  refine lv_topi (fun x_1 ex_1 => ?_)
  obtain rfl : x_1 = nI a := by rw [ex_1]; first | done | (first | exact nI_add a _ | exact Int32.add_zero _)
  refine va_bald hx hb hK hP 0 1 rfl rfl (vp_in_nI (by omega) (by omega)) d_Md_number_20 ?_
  rw [show (nI a).toNatClampNeg = a from nI_clamp (by omega)]
  refine lv_sipush (v := 255) hx hb d_Md_number_21 (by decide) ?_
  refine lv_iand hx hb d_Md_number_24 ?_
  refine lv_i2l hx hb d_Md_number_25 rfl ?_
  refine lv_lor hx hb d_Md_number_26 ?_
  refine lv_topl (fun x_2 ex_2 => ?_)
  obtain rfl : x_2 = md_nb 0 (g a) := by rw [ex_2]; first | done | (rfl)
  refine lv_lstore_n (lv' := [(3, .long (md_nb 0 (g a))), (5, .int 0), (0, .ref ar), (1, .int (nI a)), (2, .int 4)]) hx hb d_Md_number_27 rfl hl (by decide) rfl (fun ls hl => ?_)
  refine lv_iinc (v := 1) (lv' := [(5, .int 1), (3, .long (md_nb 0 (g a))), (0, .ref ar), (1, .int (nI a)), (2, .int 4)]) hx hb d_Md_number_28 hl (k := 1) rfl (by decide) (by decide) rfl (fun ls hl => ?_)
  refine lv_goto (tgt := 5) hx hb d_Md_number_31 (by decide) ?_
  refine lv_iload hx hb d_Md_number_5 (lv_at hl 0 rfl) ?_
  refine lv_iload_n hx hb d_Md_number_7 rfl (lv_at hl 4 rfl) ?_
  refine lv_icmp_ge (tgt := 34) hx hb d_Md_number_8 (by decide) (fun c_8 => absurd c_8 (by decide)) (fun _ => ?_)
  refine lv_lload_n hx hb d_Md_number_11 rfl (lv_at hl 1 rfl) ?_
  refine lv_bipush (v := 8) hx hb d_Md_number_12 (by decide) ?_
  refine lv_lshl hx hb d_Md_number_14 rfl ?_
  refine lv_aload_n hx hb d_Md_number_15 rfl (lv_at hl 2 rfl) ?_
  refine lv_iload_n hx hb d_Md_number_16 rfl (lv_at hl 3 rfl) ?_
  refine lv_iload hx hb d_Md_number_17 (lv_at hl 0 rfl) ?_
  refine lv_iadd hx hb d_Md_number_19 ?_
  refine lv_topi (fun x_3 ex_3 => ?_)
  obtain rfl : x_3 = nI (a + 1) := by rw [ex_3]; first | done | (first | exact nI_add a _ | exact Int32.add_zero _)
  refine va_bald hx hb hK hP 0 1 rfl rfl (vp_in_nI (by omega) (by omega)) d_Md_number_20 ?_
  rw [show (nI (a + 1)).toNatClampNeg = (a + 1) from nI_clamp (by omega)]
  refine lv_sipush (v := 255) hx hb d_Md_number_21 (by decide) ?_
  refine lv_iand hx hb d_Md_number_24 ?_
  refine lv_i2l hx hb d_Md_number_25 rfl ?_
  refine lv_lor hx hb d_Md_number_26 ?_
  refine lv_topl (fun x_4 ex_4 => ?_)
  obtain rfl : x_4 = md_nb (md_nb 0 (g a)) (g (a + 1)) := by rw [ex_4]; first | done | (rfl)
  refine lv_lstore_n (lv' := [(3, .long (md_nb (md_nb 0 (g a)) (g (a + 1)))), (5, .int 1), (0, .ref ar), (1, .int (nI a)), (2, .int 4)]) hx hb d_Md_number_27 rfl hl (by decide) rfl (fun ls hl => ?_)
  refine lv_iinc (v := 2) (lv' := [(5, .int 2), (3, .long (md_nb (md_nb 0 (g a)) (g (a + 1)))), (0, .ref ar), (1, .int (nI a)), (2, .int 4)]) hx hb d_Md_number_28 hl (k := 1) rfl (by decide) (by decide) rfl (fun ls hl => ?_)
  refine lv_goto (tgt := 5) hx hb d_Md_number_31 (by decide) ?_
  refine lv_iload hx hb d_Md_number_5 (lv_at hl 0 rfl) ?_
  refine lv_iload_n hx hb d_Md_number_7 rfl (lv_at hl 4 rfl) ?_
  refine lv_icmp_ge (tgt := 34) hx hb d_Md_number_8 (by decide) (fun c_8 => absurd c_8 (by decide)) (fun _ => ?_)
  refine lv_lload_n hx hb d_Md_number_11 rfl (lv_at hl 1 rfl) ?_
  refine lv_bipush (v := 8) hx hb d_Md_number_12 (by decide) ?_
  refine lv_lshl hx hb d_Md_number_14 rfl ?_
  refine lv_aload_n hx hb d_Md_number_15 rfl (lv_at hl 2 rfl) ?_
  refine lv_iload_n hx hb d_Md_number_16 rfl (lv_at hl 3 rfl) ?_
  refine lv_iload hx hb d_Md_number_17 (lv_at hl 0 rfl) ?_
  refine lv_iadd hx hb d_Md_number_19 ?_
  refine lv_topi (fun x_5 ex_5 => ?_)
  obtain rfl : x_5 = nI (a + 2) := by rw [ex_5]; first | done | (first | exact nI_add a _ | exact Int32.add_zero _)
  refine va_bald hx hb hK hP 0 1 rfl rfl (vp_in_nI (by omega) (by omega)) d_Md_number_20 ?_
  rw [show (nI (a + 2)).toNatClampNeg = (a + 2) from nI_clamp (by omega)]
  refine lv_sipush (v := 255) hx hb d_Md_number_21 (by decide) ?_
  refine lv_iand hx hb d_Md_number_24 ?_
  refine lv_i2l hx hb d_Md_number_25 rfl ?_
  refine lv_lor hx hb d_Md_number_26 ?_
  refine lv_topl (fun x_6 ex_6 => ?_)
  obtain rfl : x_6 = md_nb (md_nb (md_nb 0 (g a)) (g (a + 1))) (g (a + 2)) := by rw [ex_6]; first | done | (rfl)
  refine lv_lstore_n (lv' := [(3, .long (md_nb (md_nb (md_nb 0 (g a)) (g (a + 1))) (g (a + 2)))), (5, .int 2), (0, .ref ar), (1, .int (nI a)), (2, .int 4)]) hx hb d_Md_number_27 rfl hl (by decide) rfl (fun ls hl => ?_)
  refine lv_iinc (v := 3) (lv' := [(5, .int 3), (3, .long (md_nb (md_nb (md_nb 0 (g a)) (g (a + 1))) (g (a + 2)))), (0, .ref ar), (1, .int (nI a)), (2, .int 4)]) hx hb d_Md_number_28 hl (k := 1) rfl (by decide) (by decide) rfl (fun ls hl => ?_)
  refine lv_goto (tgt := 5) hx hb d_Md_number_31 (by decide) ?_
  refine lv_iload hx hb d_Md_number_5 (lv_at hl 0 rfl) ?_
  refine lv_iload_n hx hb d_Md_number_7 rfl (lv_at hl 4 rfl) ?_
  refine lv_icmp_ge (tgt := 34) hx hb d_Md_number_8 (by decide) (fun c_8 => absurd c_8 (by decide)) (fun _ => ?_)
  refine lv_lload_n hx hb d_Md_number_11 rfl (lv_at hl 1 rfl) ?_
  refine lv_bipush (v := 8) hx hb d_Md_number_12 (by decide) ?_
  refine lv_lshl hx hb d_Md_number_14 rfl ?_
  refine lv_aload_n hx hb d_Md_number_15 rfl (lv_at hl 2 rfl) ?_
  refine lv_iload_n hx hb d_Md_number_16 rfl (lv_at hl 3 rfl) ?_
  refine lv_iload hx hb d_Md_number_17 (lv_at hl 0 rfl) ?_
  refine lv_iadd hx hb d_Md_number_19 ?_
  refine lv_topi (fun x_7 ex_7 => ?_)
  obtain rfl : x_7 = nI (a + 3) := by rw [ex_7]; first | done | (first | exact nI_add a _ | exact Int32.add_zero _)
  refine va_bald hx hb hK hP 0 1 rfl rfl (vp_in_nI (by omega) (by omega)) d_Md_number_20 ?_
  rw [show (nI (a + 3)).toNatClampNeg = (a + 3) from nI_clamp (by omega)]
  refine lv_sipush (v := 255) hx hb d_Md_number_21 (by decide) ?_
  refine lv_iand hx hb d_Md_number_24 ?_
  refine lv_i2l hx hb d_Md_number_25 rfl ?_
  refine lv_lor hx hb d_Md_number_26 ?_
  refine lv_topl (fun x_8 ex_8 => ?_)
  obtain rfl : x_8 = md_nb (md_nb (md_nb (md_nb 0 (g a)) (g (a + 1))) (g (a + 2))) (g (a + 3)) := by rw [ex_8]; first | done | (rfl)
  refine lv_lstore_n (lv' := [(3, .long (md_nb (md_nb (md_nb (md_nb 0 (g a)) (g (a + 1))) (g (a + 2))) (g (a + 3)))), (5, .int 3), (0, .ref ar), (1, .int (nI a)), (2, .int 4)]) hx hb d_Md_number_27 rfl hl (by decide) rfl (fun ls hl => ?_)
  refine lv_iinc (v := 4) (lv' := [(5, .int 4), (3, .long (md_nb (md_nb (md_nb (md_nb 0 (g a)) (g (a + 1))) (g (a + 2))) (g (a + 3)))), (0, .ref ar), (1, .int (nI a)), (2, .int 4)]) hx hb d_Md_number_28 hl (k := 1) rfl (by decide) (by decide) rfl (fun ls hl => ?_)
  refine lv_goto (tgt := 5) hx hb d_Md_number_31 (by decide) ?_
  refine lv_iload hx hb d_Md_number_5 (lv_at hl 0 rfl) ?_
  refine lv_iload_n hx hb d_Md_number_7 rfl (lv_at hl 4 rfl) ?_
  refine lv_icmp_ge (tgt := 34) hx hb d_Md_number_8 (by decide) (fun _ => ?_) (fun c_8 => absurd (by decide) c_8)
  refine lv_lload_n hx hb d_Md_number_34 rfl (lv_at hl 1 rfl) ?_
  exact W.lret (v := md_num g a) hx hb hr (fun t ht hW => ⟨⟨_, (), rfl, rfl, by rw [ht]; exact hP, va_K.moved hW.alike hK, hD⟩, hS.F ht⟩) hS.2.2 d_Md_number_35
set_option maxHeartbeats 4000000 in
set_option maxRecDepth 100000 in
/-- begin of the model's Sha256 -/
theorem m_MS_begin (l : Launch) (dC : Nat → ClassId) (dI : Nat → Nat → Nat) (cI cB cL cZ cR : ClassId) (h sm : Nat) (ms_w ms_size ms_block ms_gathered ms_filled ms_total ms_blocks : Value) (f0 : Nat → Int32) (sz : Nat) : Met l y_MS_begin ws_MS_begin ({ frames := 0, cells := 0, slots := 0, locals := 0 }) (xw_Px dC dI [(cI, .int), (cB, .byte), (cL, .long), (cZ, .boolean), (cR, .object "PatchStore$Repository")] [.ref h] [(h, .inr (13, [.ref sm, ms_w, ms_size, ms_block, ms_gathered, ms_filled, ms_total, ms_blocks])), (sm, .inl (cI, 8, .inl f0))] sz) (va_Qv (fun u : Nat → Int32 => ∀ j, j < 8 → u j = sh_START j) (fun u t => xw_B dC dI [(cI, .int), (cB, .byte), (cL, .long), (cZ, .boolean), (cR, .object "PatchStore$Repository")] (va_A [(h, .inr (13, [.ref sm, ms_w, ms_size, ms_block, ms_gathered, ms_filled, ms_total, ms_blocks])), (sm, .inl (cI, 8, .inl f0))] sz) [(h, .inr (13, [.ref sm, ms_w, ms_size, ms_block, ms_gathered, ms_filled, ms_total, ms_blocks])), (sm, .inl (cI, 8, .inl u))] t) (va_A [(h, .inr (13, [.ref sm, ms_w, ms_size, ms_block, ms_gathered, ms_filled, ms_total, ms_blocks])), (sm, .inl (cI, 8, .inl f0))] sz)) 0 0 (va_A [(h, .inr (13, [.ref sm, ms_w, ms_size, ms_block, ms_gathered, ms_filled, ms_total, ms_blocks])), (sm, .inl (cI, 8, .inl f0))] sz) := by
  refine Met.ofW (cc := prog_17_method_2_code) (maxL := 2) (ret := none) (by decide) rfl ?_
  intro p e s m args below meth c s₁ B hml hv
  obtain ⟨rfl, hsz, hP, hK, hD0, hN, hTh⟩ := hv
  have hx := B.exec
  have hb := B.bytes
  have hr := B.returns
  have hts0 := atoms_spec (ws := ws_MS_begin) B.pre
  have hts : ∀ w ∈ xg_1, w.before _ s = true := fun w h => hts0 w (List.mem_cons_of_mem _ h)
  have hown : s.vm.findClass "PatchStoreModel$Sha256" = some m.cls := findClass_of_methodNamed B.named
  have hlocks := B.notSynchronized
  subst hsz
  have hD := hD0.self (sz := s.heap.size)
  generalize hAe : va_A [(h, .inr (13, [.ref sm, ms_w, ms_size, ms_block, ms_gathered, ms_filled, ms_total, ms_blocks])), (sm, .inl (cI, 8, .inl f0))] s.heap.size = A at hD hTh ⊢
  obtain ⟨t_START, hZ_START, hT_START⟩ := hTh.2.1
  obtain ⟨t_ROUND, hZ_ROUND, hT_ROUND⟩ := hTh.2.2.1
  obtain ⟨t_FIRST, hZ_FIRST, hT_FIRST⟩ := hTh.2.2.2.1
  obtain ⟨t_ROOTS, hZ_ROOTS, hT_ROOTS⟩ := hTh.2.2.2.2.1
  have hA : ∀ q : Nat, s.heap.size ≤ q → A q := fun q h => by rw [← hAe]; exact Or.inr h
  have hS : va_S A s.heap s.heap [] := va_S.rf
  have hl := lv_entry ([.ref h]) (n := 2) (Nat.le_of_ble_eq_true rfl)
  rw [lg_entry_eq]
  generalize (lg_sl ([.ref h]) ++ List.replicate (2 - (lg_sl ([.ref h])).length) Slot.unset).toArray = ls at hl ⊢
  have hl : lv_has ls 2 [(0, .ref h)] := hl
  generalize hQe : MQ _ _ _ _ _ _ _ = Q
  refine lv_iconst (v := 0) hx hb d_MS_begin_0 (by decide) ?_
  refine lv_istore_n (lv' := [(1, .int 0), (0, .ref h)]) hx hb d_MS_begin_1 rfl hl (by decide) rfl (fun ls hl => ?_)
  have loop_2 : ∀ (n : Nat) (k : Nat) (f : Nat → Int32) (H : Heap) (locs : List Loc) (ls : Array Slot), 8 - k < n → (k ≤ 8) → (∀ j, j < k → f j = sh_START j) → va_P (dC, dI) classes [(h, .inr (13, [.ref sm, ms_w, ms_size, ms_block, ms_gathered, ms_filled, ms_total, ms_blocks])), (sm, .inl (cI, 8, .inl f))] H → va_D A [(h, .inr (13, [.ref sm, ms_w, ms_size, ms_block, ms_gathered, ms_filled, ms_total, ms_blocks])), (sm, .inl (cI, 8, .inl f))] → va_S A s.heap H locs → lv_has ls 2 [(0, .ref h), (1, .int (nI k))] → W p l e (headSpec ws_MS_begin ({ frames := 0, cells := 0, slots := 0, locals := 0 })).room s m ([.ref h] : List Value).toArray below meth c H locs 0 0 Q (F0 m 2 ls []) := by
    intro n
    induction n with
    | zero => intro k f H locs ls hm; exact absurd hm (Nat.not_lt_zero _)
    | succ n ih_2 =>
      intro k f H locs ls hm hk hf hP hD hS hl
      refine lv_iload_n hx hb d_MS_begin_2 rfl (lv_at hl 1 rfl) ?_
      refine lv_bipush (v := 8) hx hb d_MS_begin_3 (by decide) ?_
      refine lv_icmp_ge (tgt := 29) hx hb d_MS_begin_5 (by decide) (fun c_5 => ?_) (fun c_5 => ?_)
      · have hk8 : k = 8 := by have := (nI_leI (a := 8) (b := k) (by omega) (by omega)).mp c_5; omega
        subst hk8
        rw [← hQe]
        exact W.vret hx hb hr (fun t ht hW => ⟨⟨f, rfl, hf, by rw [ht]; exact hP, va_K.moved hW.alike hK, hD⟩, hS.F ht⟩) hS.2.2 d_MS_begin_29
      · have hk8 : k < 8 := by rcases Nat.lt_or_ge k 8 with z | z; exact z; exact absurd (nI_le (a := 8) z (by omega)) c_5
        refine lv_aload_n hx hb d_MS_begin_8 rfl (lv_at hl 0 rfl) ?_
        refine va_get (D := (dC, dI)) (ci := 13) (v := .ref sm) (C := R_MS) (T := F_MS) (N := 8) hx hb hts i_MS hown hK hP 0 rfl rfl 0 (by decide) (hts _ gw_1390) (fun _ h9 => h9) rfl d_MS_begin_9 ?_
        refine lv_iload_n hx hb d_MS_begin_12 rfl (lv_at hl 1 rfl) ?_
        refine xs_getsN hx hb hZ_FIRST hS hown (hN _ gn_1776) (fun _ h9 => h9) d_MS_begin_13 ?_
        refine lv_iload_n hx hb d_MS_begin_16 rfl (lv_at hl 1 rfl) ?_
        refine va_tl (v := .long (sh_FIRST k)) hx hb hT_FIRST hS (vp_in_nI (by omega) (by omega)) (by rw [show (nI k).toNatClampNeg = k from nI_clamp (by omega)]) d_MS_begin_17 ?_
        refine lv_bipush (v := 32) hx hb d_MS_begin_18 (by decide) ?_
        refine lv_lushr hx hb d_MS_begin_20 rfl ?_
        refine lv_l2i hx hb d_MS_begin_21 rfl ?_
        refine lv_topi (fun x_1 ex_1 => ?_)
        obtain rfl : x_1 = sh_START k := by rw [ex_1]; first | done | (exact md_first k hk8)
        refine va_iast hx hb hK hP hD hS 1 0 rfl rfl (vp_in_nI (by omega) (by omega)) d_MS_begin_22 (fun H locs hP hD hS => ?_)
        rw [show (nI k).toNatClampNeg = k from nI_clamp (by omega)] at hP hD
        have hP : va_P (dC, dI) classes [(h, .inr (13, [.ref sm, ms_w, ms_size, ms_block, ms_gathered, ms_filled, ms_total, ms_blocks])), (sm, .inl (cI, 8, .inl (upd f k (sh_START k))))] H := hP
        have hD : va_D A [(h, .inr (13, [.ref sm, ms_w, ms_size, ms_block, ms_gathered, ms_filled, ms_total, ms_blocks])), (sm, .inl (cI, 8, .inl (upd f k (sh_START k))))] := hD
        refine lv_iinc (v := nI (k + 1)) (lv' := [(1, .int (nI (k + 1))), (0, .ref h)]) hx hb d_MS_begin_23 hl (k := 1) rfl (by exact nI_1 k) (by decide) rfl (fun ls hl => ?_)
        refine lv_goto (tgt := 2) hx hb d_MS_begin_26 (by decide) ?_
        exact ih_2 (k + 1) (upd f k (sh_START k)) _ _ _ (by omega) (by omega) (lt_s (fun a ha => by rw [pk_un (by omega)]; exact hf a ha) (by rw [pk_us])) hP hD hS (lv_sub hl [1, 0] rfl)
  exact loop_2 _ 0 f0 _ _ _ (Nat.lt_succ_self _) (Nat.zero_le _) (fun j hj => absurd hj (Nat.not_lt_zero j)) hP hD hS (lv_sub hl [1, 0] rfl)
set_option maxHeartbeats 4000000 in
set_option maxRecDepth 100000 in
/-- reset of the model's Digest -/
theorem m_MD_reset (l : Launch) (dC : Nat → ClassId) (dI : Nat → Nat → Nat) (cI cB cL cZ cR : ClassId) (h sm : Nat) (ms_w ms_size ms_block ms_gathered ms_filled ms_total ms_blocks : Value) (f0 : Nat → Int32) (sz : Nat) : Met l y_MD_reset ws_MD_reset ({ frames := 1, cells := 0, slots := 0, locals := 40 }) (xw_Px dC dI [(cI, .int), (cB, .byte), (cL, .long), (cZ, .boolean), (cR, .object "PatchStore$Repository")] [.ref h] [(h, .inr (13, [.ref sm, ms_w, ms_size, ms_block, ms_gathered, ms_filled, ms_total, ms_blocks])), (sm, .inl (cI, 8, .inl f0))] sz) (va_Qv (fun u : Nat → Int32 => ∀ j, j < 8 → u j = sh_START j) (fun u t => xw_B dC dI [(cI, .int), (cB, .byte), (cL, .long), (cZ, .boolean), (cR, .object "PatchStore$Repository")] (va_A [(h, .inr (13, [.ref sm, ms_w, ms_size, ms_block, ms_gathered, ms_filled, ms_total, ms_blocks])), (sm, .inl (cI, 8, .inl f0))] sz) [(h, .inr (13, [.ref sm, ms_w, ms_size, ms_block, ms_gathered, .int 0, .long 0, ms_blocks])), (sm, .inl (cI, 8, .inl u))] t) (va_A [(h, .inr (13, [.ref sm, ms_w, ms_size, ms_block, ms_gathered, ms_filled, ms_total, ms_blocks])), (sm, .inl (cI, 8, .inl f0))] sz)) 0 0 (va_A [(h, .inr (13, [.ref sm, ms_w, ms_size, ms_block, ms_gathered, ms_filled, ms_total, ms_blocks])), (sm, .inl (cI, 8, .inl f0))] sz) := by
  refine Met.ofW (cc := prog_15_method_6_code) (maxL := 1) (ret := none) (by decide) rfl ?_
  intro p e s m args below meth c s₁ B hml hv
  obtain ⟨rfl, hsz, hP, hK, hD0, hN, hTh⟩ := hv
  have hx := B.exec
  have hb := B.bytes
  have hr := B.returns
  have hts0 := atoms_spec (ws := ws_MD_reset) B.pre
  have hts : ∀ w ∈ xg_1, w.before _ s = true := fun w h => hts0 w (List.mem_cons_of_mem _ h)
  have hown : s.vm.findClass "PatchStoreModel$Digest" = some m.cls := findClass_of_methodNamed B.named
  have hlocks := B.notSynchronized
  subst hsz
  have hD := hD0.self (sz := s.heap.size)
  generalize hAe : va_A [(h, .inr (13, [.ref sm, ms_w, ms_size, ms_block, ms_gathered, ms_filled, ms_total, ms_blocks])), (sm, .inl (cI, 8, .inl f0))] s.heap.size = A at hD hTh ⊢
  have hA : ∀ q : Nat, s.heap.size ≤ q → A q := fun q h => by rw [← hAe]; exact Or.inr h
  have hS : va_S A s.heap s.heap [] := va_S.rf
  have hl := lv_entry ([.ref h]) (n := 1) (Nat.le_of_ble_eq_true rfl)
  rw [lg_entry_eq]
  generalize (lg_sl ([.ref h]) ++ List.replicate (1 - (lg_sl ([.ref h])).length) Slot.unset).toArray = ls at hl ⊢
  have hl : lv_has ls 1 [(0, .ref h)] := hl
  refine lv_aload_n hx hb d_MD_reset_0 rfl (lv_at hl 0 rfl) ?_
  refine lv_iconst (v := 0) hx hb d_MD_reset_1 (by decide) ?_
  refine va_put (D := (dC, dI)) (ci := 13) (v := .int 0) (ty := .int) (C := R_MS) (T := F_MS) (N := 8) hx hb hts i_MS t_MS t_MS_ok n_MS hown hK hP hD hS 0 rfl rfl 5 (by decide) (hts _ gw_1395) (fun _ h9 => h9) rfl (by decide +kernel) rfl rfl (Nat.le_of_ble_eq_true rfl) d_MD_reset_2 (fun H locs hP hD hS => ?_)
  have hP : va_P (dC, dI) classes [(h, .inr (13, [.ref sm, ms_w, ms_size, ms_block, ms_gathered, .int 0, ms_total, ms_blocks])), (sm, .inl (cI, 8, .inl f0))] H := hP
  have hD : va_D A [(h, .inr (13, [.ref sm, ms_w, ms_size, ms_block, ms_gathered, .int 0, ms_total, ms_blocks])), (sm, .inl (cI, 8, .inl f0))] := hD
  refine lv_aload_n hx hb d_MD_reset_5 rfl (lv_at hl 0 rfl) ?_
  refine lv_lconst (v := 0) hx hb d_MD_reset_6 (by decide) ?_
  refine va_put (D := (dC, dI)) (ci := 13) (v := .long 0) (ty := .long) (C := R_MS) (T := F_MS) (N := 8) hx hb hts i_MS t_MS t_MS_ok n_MS hown hK hP hD hS 0 rfl rfl 6 (by decide) (hts _ gw_1396) (fun _ h9 => h9) rfl (by decide +kernel) rfl rfl (Nat.le_of_ble_eq_true rfl) d_MD_reset_7 (fun H locs hP hD hS => ?_)
  have hP : va_P (dC, dI) classes [(h, .inr (13, [.ref sm, ms_w, ms_size, ms_block, ms_gathered, .int 0, .long 0, ms_blocks])), (sm, .inl (cI, 8, .inl f0))] H := hP
  have hD : va_D A [(h, .inr (13, [.ref sm, ms_w, ms_size, ms_block, ms_gathered, .int 0, .long 0, ms_blocks])), (sm, .inl (cI, 8, .inl f0))] := hD
  refine lv_aload_n hx hb d_MD_reset_10 rfl (lv_at hl 0 rfl) ?_
  have hPc := hP.sub (ws' := [(h, .inr (13, [.ref sm, ms_w, ms_size, ms_block, ms_gathered, .int 0, .long 0, ms_blocks])), (sm, .inl (cI, 8, .inl f0))]) [0, 1] rfl
  have hDc := hD.sub (ws' := [(h, .inr (13, [.ref sm, ms_w, ms_size, ms_block, ms_gathered, .int 0, .long 0, ms_blocks])), (sm, .inl (cI, 8, .inl f0))]) [0, 1] (by decide) rfl
  have hFc := va_free (wc := [(h, .inr (13, [.ref sm, ms_w, ms_size, ms_block, ms_gathered, .int 0, .long 0, ms_blocks])), (sm, .inl (cI, 8, .inl f0))]) hD hS hA [0, 1] rfl
  refine va_callv (va_runU (As := []) (rest := []) ⟨hx, hb, hml, hown, hts⟩ (m_MS_begin l dC dI cI cB cL cZ cR h sm (ms_w) (ms_size) (ms_block) (ms_gathered) (.int 0) (.long 0) (ms_blocks) f0 H.size ) (va_cwA 0 hts (xg_U gw_1770 gw_1772 gw_1773 gw_1774 gw_15 gw_1775) rfl rfl rfl (hN _ gn_1771) (by decide +kernel) ⟨Nat.le_of_ble_eq_true rfl, Nat.le_of_ble_eq_true rfl⟩) ⟨xw_blindx, va_recv hK hPc (ci := 13) (q0 := 0) rfl rfl, fun U hU hW => ⟨rfl, by rw [hU], by rw [hU]; exact hPc, va_K.moved hW.alike hK, hDc.weaken (fun _ _ _ _ => trivial), xg_N.warm hW hN, by rw [hU]; exact ((hTh.kept (fun a h1 h2 => hS.2.1 a h1 h2)).narrow hFc).moved hW.alike⟩⟩ rfl rfl hl.1 rfl (lv_room (Nat.le_of_ble_eq_true rfl)) d_MD_reset_11 ⟨Nat.le_of_ble_eq_true rfl, Nat.le_of_ble_eq_true rfl⟩) hS (fun q _ h => hFc q h) hFc (fun f1 t H1 locs ht hvm hw hB hz1 hk1 hS => ?_)
  obtain ⟨hP1, hK1, hD1⟩ := hB
  rw [ht] at hP1
  obtain ⟨hP, hD⟩ := va_join (wr := []) (w1 := [(h, .inr (13, [.ref sm, ms_w, ms_size, ms_block, ms_gathered, .int 0, .long 0, ms_blocks])), (sm, .inl (cI, 8, .inl f1))]) hP hD [0, 1] [] rfl rfl (by decide) (by decide) hk1 hFc hP1 hD1
  generalize H1 = H at hP hS ⊢
  have hP : va_P (dC, dI) classes [(h, .inr (13, [.ref sm, ms_w, ms_size, ms_block, ms_gathered, .int 0, .long 0, ms_blocks])), (sm, .inl (cI, 8, .inl f1))] H := hP
  have hD : va_D A [(h, .inr (13, [.ref sm, ms_w, ms_size, ms_block, ms_gathered, .int 0, .long 0, ms_blocks])), (sm, .inl (cI, 8, .inl f1))] := hD
  exact W.vret hx hb hr (fun t ht hW => ⟨⟨f1, rfl, hw, by rw [ht]; exact hP, va_K.moved hW.alike hK, hD⟩, hS.F ht⟩) hS.2.2 d_MD_reset_14
set_option maxHeartbeats 4000000 in
set_option maxRecDepth 100000 in
/-- spread of the model's Sha256 -/
theorem m_MS_spread (l : Launch) (dC : Nat → ClassId) (dI : Nat → Nat → Nat) (cI cB cL cZ cR : ClassId) (h wd bl : Nat) (ms_h ms_size ms_block ms_gathered ms_filled ms_total ms_blocks : Value) (f0 b : Nat → Int32) (sz : Nat) : Met l y_MS_spread ws_MS_spread ({ frames := 1, cells := 0, slots := 0, locals := 60 }) (xw_Px dC dI [(cI, .int), (cB, .byte), (cL, .long), (cZ, .boolean), (cR, .object "PatchStore$Repository")] [.ref h, .ref bl, .int 0] [(h, .inr (13, [ms_h, .ref wd, ms_size, ms_block, ms_gathered, ms_filled, ms_total, ms_blocks])), (wd, .inl (cI, 64, .inl f0)), (bl, .inl (cB, 64, .inl b))] sz) (va_Qv (fun u : Nat → Int32 => ∀ j, j < 64 → u j = sh_wf b 64 j) (fun u t => xw_B dC dI [(cI, .int), (cB, .byte), (cL, .long), (cZ, .boolean), (cR, .object "PatchStore$Repository")] (va_A [(h, .inr (13, [ms_h, .ref wd, ms_size, ms_block, ms_gathered, ms_filled, ms_total, ms_blocks])), (wd, .inl (cI, 64, .inl f0)), (bl, .inl (cB, 64, .inl b))] sz) [(h, .inr (13, [ms_h, .ref wd, ms_size, ms_block, ms_gathered, ms_filled, ms_total, ms_blocks])), (wd, .inl (cI, 64, .inl u)), (bl, .inl (cB, 64, .inl b))] t) (va_A [(h, .inr (13, [ms_h, .ref wd, ms_size, ms_block, ms_gathered, ms_filled, ms_total, ms_blocks])), (wd, .inl (cI, 64, .inl f0)), (bl, .inl (cB, 64, .inl b))] sz)) 0 0 (va_A [(h, .inr (13, [ms_h, .ref wd, ms_size, ms_block, ms_gathered, ms_filled, ms_total, ms_blocks])), (wd, .inl (cI, 64, .inl f0)), (bl, .inl (cB, 64, .inl b))] sz) := by
  refine Met.ofW (cc := prog_17_method_4_code) (maxL := 8) (ret := none) (by decide) rfl ?_
  intro p e s m args below meth c s₁ B hml hv
  obtain ⟨rfl, hsz, hP, hK, hD0, hN, hTh⟩ := hv
  have hx := B.exec
  have hb := B.bytes
  have hr := B.returns
  have hts0 := atoms_spec (ws := ws_MS_spread) B.pre
  have hts : ∀ w ∈ xg_1, w.before _ s = true := fun w h => hts0 w (List.mem_cons_of_mem _ h)
  have hown : s.vm.findClass "PatchStoreModel$Sha256" = some m.cls := findClass_of_methodNamed B.named
  have hlocks := B.notSynchronized
  subst hsz
  have hD := hD0.self (sz := s.heap.size)
  generalize hAe : va_A [(h, .inr (13, [ms_h, .ref wd, ms_size, ms_block, ms_gathered, ms_filled, ms_total, ms_blocks])), (wd, .inl (cI, 64, .inl f0)), (bl, .inl (cB, 64, .inl b))] s.heap.size = A at hD hTh ⊢
  have hA : ∀ q : Nat, s.heap.size ≤ q → A q := fun q h => by rw [← hAe]; exact Or.inr h
  have hS : va_S A s.heap s.heap [] := va_S.rf
  have hl := lv_entry ([.ref h, .ref bl, .int 0]) (n := 8) (Nat.le_of_ble_eq_true rfl)
  rw [lg_entry_eq]
  generalize (lg_sl ([.ref h, .ref bl, .int 0]) ++ List.replicate (8 - (lg_sl ([.ref h, .ref bl, .int 0])).length) Slot.unset).toArray = ls at hl ⊢
  have hl : lv_has ls 8 [(0, .ref h), (1, .ref bl), (2, .int 0)] := hl
  generalize hQe : MQ _ _ _ _ _ _ _ = Q
  refine lv_iconst (v := 0) hx hb d_MS_spread_0 (by decide) ?_
  refine lv_istore_n (lv' := [(3, .int 0), (0, .ref h), (1, .ref bl), (2, .int 0)]) hx hb d_MS_spread_1 rfl hl (by decide) rfl (fun ls hl => ?_)
  have loop_2 : ∀ (n : Nat) (k : Nat) (f : Nat → Int32) (H : Heap) (locs : List Loc) (ls : Array Slot), 16 - k < n → (k ≤ 16) → (∀ j, j < k → f j = sh_wf b k j) → va_P (dC, dI) classes [(h, .inr (13, [ms_h, .ref wd, ms_size, ms_block, ms_gathered, ms_filled, ms_total, ms_blocks])), (wd, .inl (cI, 64, .inl f)), (bl, .inl (cB, 64, .inl b))] H → va_D A [(h, .inr (13, [ms_h, .ref wd, ms_size, ms_block, ms_gathered, ms_filled, ms_total, ms_blocks])), (wd, .inl (cI, 64, .inl f)), (bl, .inl (cB, 64, .inl b))] → va_S A s.heap H locs → lv_has ls 8 [(0, .ref h), (1, .ref bl), (2, .int 0), (3, .int (nI k))] → W p l e (headSpec ws_MS_spread ({ frames := 1, cells := 0, slots := 0, locals := 60 })).room s m ([.ref h, .ref bl, .int 0] : List Value).toArray below meth c H locs 0 0 Q (F0 m 2 ls []) := by
    intro n
    induction n with
    | zero => intro k f H locs ls hm; exact absurd hm (Nat.not_lt_zero _)
    | succ n ih_2 =>
      intro k f H locs ls hm hk hf hP hD hS hl
      refine lv_iload_n hx hb d_MS_spread_2 rfl (lv_at hl 3 rfl) ?_
      refine lv_bipush (v := 16) hx hb d_MS_spread_3 (by decide) ?_
      refine lv_icmp_ge (tgt := 31) hx hb d_MS_spread_5 (by decide) (fun c_5 => ?_) (fun c_5 => ?_)
      · have hk6 : k = 16 := by have := (nI_leI (a := 16) (b := k) (by omega) (by omega)).mp c_5; omega
        subst hk6
        refine lv_bipush (v := 16) hx hb d_MS_spread_31 (by decide) ?_
        refine lv_istore_n (lv' := [(3, .int 16), (0, .ref h), (1, .ref bl), (2, .int 0)]) hx hb d_MS_spread_33 rfl hl (by decide) rfl (fun ls hl => ?_)
        have loop_34 : ∀ (n : Nat) (k : Nat) (f : Nat → Int32) (H : Heap) (locs : List Loc) (ls : Array Slot), 64 - k < n → (16 ≤ k ∧ k ≤ 64) → (∀ j, j < k → f j = sh_wf b k j) → va_P (dC, dI) classes [(h, .inr (13, [ms_h, .ref wd, ms_size, ms_block, ms_gathered, ms_filled, ms_total, ms_blocks])), (wd, .inl (cI, 64, .inl f)), (bl, .inl (cB, 64, .inl b))] H → va_D A [(h, .inr (13, [ms_h, .ref wd, ms_size, ms_block, ms_gathered, ms_filled, ms_total, ms_blocks])), (wd, .inl (cI, 64, .inl f)), (bl, .inl (cB, 64, .inl b))] → va_S A s.heap H locs → lv_has ls 8 [(0, .ref h), (1, .ref bl), (3, .int (nI k))] → W p l e (headSpec ws_MS_spread ({ frames := 1, cells := 0, slots := 0, locals := 60 })).room s m ([.ref h, .ref bl, .int 0] : List Value).toArray below meth c H locs 0 0 Q (F0 m 34 ls []) := by
          intro n
          induction n with
          | zero => intro k f H locs ls hm; exact absurd hm (Nat.not_lt_zero _)
          | succ n ih_34 =>
            intro k f H locs ls hm hk hf hP hD hS hl
            refine lv_iload_n hx hb d_MS_spread_34 rfl (lv_at hl 2 rfl) ?_
            refine lv_bipush (v := 64) hx hb d_MS_spread_35 (by decide) ?_
            refine lv_icmp_ge (tgt := 143) hx hb d_MS_spread_37 (by decide) (fun c_37 => ?_) (fun c_37 => ?_)
            · have hk9 : k = 64 := by have := (nI_leI (a := 64) (b := k) (by omega) (by omega)).mp c_37; omega
              subst hk9
              rw [← hQe]
              exact W.vret hx hb hr (fun t ht hW => ⟨⟨f, rfl, hf, by rw [ht]; exact hP, va_K.moved hW.alike hK, hD⟩, hS.F ht⟩) hS.2.2 d_MS_spread_143
            · have hk9 : k < 64 := by rcases Nat.lt_or_ge k 64 with z | z; exact z; exact absurd (nI_le (a := 64) z (by omega)) c_37
              refine lv_aload_n hx hb d_MS_spread_40 rfl (lv_at hl 0 rfl) ?_
              refine va_get (D := (dC, dI)) (ci := 13) (v := .ref wd) (C := R_MS) (T := F_MS) (N := 8) hx hb hts i_MS hown hK hP 0 rfl rfl 1 (by decide) (hts _ gw_1391) (fun _ h9 => h9) rfl d_MS_spread_41 ?_
              refine lv_iload_n hx hb d_MS_spread_44 rfl (lv_at hl 2 rfl) ?_
              refine lv_bipush (v := 15) hx hb d_MS_spread_45 (by decide) ?_
              refine lv_isub hx hb d_MS_spread_47 ?_
              refine lv_topi (fun x_1 ex_1 => ?_)
              obtain rfl : x_1 = nI (k - 15) := by rw [ex_1]; first | done | (exact pk_sub (b := 15) (by omega))
              refine va_iald hx hb hK hP 1 0 rfl rfl (vp_in_nI (by omega) (by omega)) d_MS_spread_48 ?_
              rw [show (nI (k - 15)).toNatClampNeg = (k - 15) from nI_clamp (by omega)]
              refine lv_istore (lv' := [(4, .int (f (k - 15))), (0, .ref h), (1, .ref bl), (3, .int (nI k))]) hx hb d_MS_spread_49 hl (by decide) rfl (fun ls hl => ?_)
              refine lv_aload_n hx hb d_MS_spread_51 rfl (lv_at hl 1 rfl) ?_
              refine va_get (D := (dC, dI)) (ci := 13) (v := .ref wd) (C := R_MS) (T := F_MS) (N := 8) hx hb hts i_MS hown hK hP 0 rfl rfl 1 (by decide) (hts _ gw_1391) (fun _ h9 => h9) rfl d_MS_spread_52 ?_
              refine lv_iload_n hx hb d_MS_spread_55 rfl (lv_at hl 3 rfl) ?_
              refine lv_iconst (v := 2) hx hb d_MS_spread_56 (by decide) ?_
              refine lv_isub hx hb d_MS_spread_57 ?_
              refine lv_topi (fun x_2 ex_2 => ?_)
              obtain rfl : x_2 = nI (k - 2) := by rw [ex_2]; first | done | (exact pk_sub (b := 2) (by omega))
              refine va_iald hx hb hK hP 1 0 rfl rfl (vp_in_nI (by omega) (by omega)) d_MS_spread_58 ?_
              rw [show (nI (k - 2)).toNatClampNeg = (k - 2) from nI_clamp (by omega)]
              refine lv_istore (lv' := [(5, .int (f (k - 2))), (4, .int (f (k - 15))), (0, .ref h), (1, .ref bl), (3, .int (nI k))]) hx hb d_MS_spread_59 hl (by decide) rfl (fun ls hl => ?_)
              refine lv_iload hx hb d_MS_spread_61 (lv_at hl 1 rfl) ?_
              refine lv_bipush (v := 7) hx hb d_MS_spread_63 (by decide) ?_
              have hPc := hP.sub (ws' := []) [] rfl
              have hDc := hD.sub (ws' := []) [] (by decide) rfl
              have hFc := va_free (wc := []) hD hS hA [] rfl
              refine va_calli (va_runS (As := [.int (f (k - 15)), .int 7]) (rest := []) ⟨hx, hb, hml, hown, hts⟩ (m_Ig_rotR l dC dI cI cB cL cZ cR (f (k - 15)) 7 H.size ) ⟨callB_of 2 hts (xg_in gw_1807) rfl rfl rfl (hts _ gw_25) (hts _ gw_1805) (by decide +kernel) ⟨Nat.le_of_ble_eq_true rfl, Nat.le_of_ble_eq_true rfl⟩, hts _ gw_1806⟩ ⟨xw_blind, fun U hU hW => ⟨rfl, by rw [hU], by rw [hU]; exact hPc, va_K.moved hW.alike hK, hDc.weaken (fun _ _ _ _ => trivial)⟩⟩ rfl rfl hl.1 rfl (lv_room (Nat.le_of_ble_eq_true rfl)) d_MS_spread_65 ⟨Nat.le_of_ble_eq_true rfl, Nat.le_of_ble_eq_true rfl⟩) hS (fun q _ h => hFc q h) hFc (fun r9 u t H1 locs ht hvm hw hB hz1 hk1 hS => ?_)
              obtain ⟨hP1, hK1, hD1⟩ := hB
              rw [ht] at hP1
              obtain ⟨hP, hD⟩ := va_join (wr := [(h, .inr (13, [ms_h, .ref wd, ms_size, ms_block, ms_gathered, ms_filled, ms_total, ms_blocks])), (wd, .inl (cI, 64, .inl f)), (bl, .inl (cB, 64, .inl b))]) (w1 := []) hP hD [] [0, 1, 2] rfl rfl (by decide) (by decide) hk1 hFc hP1 hD1
              generalize H1 = H at hP hS ⊢
              have hP : va_P (dC, dI) classes [(h, .inr (13, [ms_h, .ref wd, ms_size, ms_block, ms_gathered, ms_filled, ms_total, ms_blocks])), (wd, .inl (cI, 64, .inl f)), (bl, .inl (cB, 64, .inl b))] H := hP
              have hD : va_D A [(h, .inr (13, [ms_h, .ref wd, ms_size, ms_block, ms_gathered, ms_filled, ms_total, ms_blocks])), (wd, .inl (cI, 64, .inl f)), (bl, .inl (cB, 64, .inl b))] := hD
              subst hw
              refine lv_iload hx hb d_MS_spread_68 (lv_at hl 1 rfl) ?_
              refine lv_bipush (v := 18) hx hb d_MS_spread_70 (by decide) ?_
              have hPc := hP.sub (ws' := []) [] rfl
              have hDc := hD.sub (ws' := []) [] (by decide) rfl
              have hFc := va_free (wc := []) hD hS hA [] rfl
              refine va_calli (va_runS (As := [.int (f (k - 15)), .int 18]) (rest := [.int (sh_rr (f (k - 15)) 7)]) ⟨hx, hb, hml, hown, hts⟩ (m_Ig_rotR l dC dI cI cB cL cZ cR (f (k - 15)) 18 H.size ) ⟨callB_of 2 hts (xg_in gw_1807) rfl rfl rfl (hts _ gw_25) (hts _ gw_1805) (by decide +kernel) ⟨Nat.le_of_ble_eq_true rfl, Nat.le_of_ble_eq_true rfl⟩, hts _ gw_1806⟩ ⟨xw_blind, fun U hU hW => ⟨rfl, by rw [hU], by rw [hU]; exact hPc, va_K.moved hW.alike hK, hDc.weaken (fun _ _ _ _ => trivial)⟩⟩ rfl rfl hl.1 rfl (lv_room (Nat.le_of_ble_eq_true rfl)) d_MS_spread_72 ⟨Nat.le_of_ble_eq_true rfl, Nat.le_of_ble_eq_true rfl⟩) hS (fun q _ h => hFc q h) hFc (fun r9 u t H1 locs ht hvm hw hB hz1 hk1 hS => ?_)
              obtain ⟨hP1, hK1, hD1⟩ := hB
              rw [ht] at hP1
              obtain ⟨hP, hD⟩ := va_join (wr := [(h, .inr (13, [ms_h, .ref wd, ms_size, ms_block, ms_gathered, ms_filled, ms_total, ms_blocks])), (wd, .inl (cI, 64, .inl f)), (bl, .inl (cB, 64, .inl b))]) (w1 := []) hP hD [] [0, 1, 2] rfl rfl (by decide) (by decide) hk1 hFc hP1 hD1
              generalize H1 = H at hP hS ⊢
              have hP : va_P (dC, dI) classes [(h, .inr (13, [ms_h, .ref wd, ms_size, ms_block, ms_gathered, ms_filled, ms_total, ms_blocks])), (wd, .inl (cI, 64, .inl f)), (bl, .inl (cB, 64, .inl b))] H := hP
              have hD : va_D A [(h, .inr (13, [ms_h, .ref wd, ms_size, ms_block, ms_gathered, ms_filled, ms_total, ms_blocks])), (wd, .inl (cI, 64, .inl f)), (bl, .inl (cB, 64, .inl b))] := hD
              subst hw
              refine lv_ixor hx hb d_MS_spread_75 ?_
              refine lv_iload hx hb d_MS_spread_76 (lv_at hl 1 rfl) ?_
              refine lv_iconst (v := 3) hx hb d_MS_spread_78 (by decide) ?_
              refine lv_iushr hx hb d_MS_spread_79 rfl ?_
              refine lv_ixor hx hb d_MS_spread_80 ?_
              refine lv_topi (fun x_3 ex_3 => ?_)
              obtain rfl : x_3 = sh_low (f (k - 15)) := by rw [ex_3]; first | done | (rw [sh_rr_7, sh_rr_18]; rfl)
              refine lv_istore (lv' := [(6, .int (sh_low (f (k - 15)))), (5, .int (f (k - 2))), (4, .int (f (k - 15))), (0, .ref h), (1, .ref bl), (3, .int (nI k))]) hx hb d_MS_spread_81 hl (by decide) rfl (fun ls hl => ?_)
              refine lv_iload hx hb d_MS_spread_83 (lv_at hl 1 rfl) ?_
              refine lv_bipush (v := 17) hx hb d_MS_spread_85 (by decide) ?_
              have hPc := hP.sub (ws' := []) [] rfl
              have hDc := hD.sub (ws' := []) [] (by decide) rfl
              have hFc := va_free (wc := []) hD hS hA [] rfl
              refine va_calli (va_runS (As := [.int (f (k - 2)), .int 17]) (rest := []) ⟨hx, hb, hml, hown, hts⟩ (m_Ig_rotR l dC dI cI cB cL cZ cR (f (k - 2)) 17 H.size ) ⟨callB_of 2 hts (xg_in gw_1807) rfl rfl rfl (hts _ gw_25) (hts _ gw_1805) (by decide +kernel) ⟨Nat.le_of_ble_eq_true rfl, Nat.le_of_ble_eq_true rfl⟩, hts _ gw_1806⟩ ⟨xw_blind, fun U hU hW => ⟨rfl, by rw [hU], by rw [hU]; exact hPc, va_K.moved hW.alike hK, hDc.weaken (fun _ _ _ _ => trivial)⟩⟩ rfl rfl hl.1 rfl (lv_room (Nat.le_of_ble_eq_true rfl)) d_MS_spread_87 ⟨Nat.le_of_ble_eq_true rfl, Nat.le_of_ble_eq_true rfl⟩) hS (fun q _ h => hFc q h) hFc (fun r9 u t H1 locs ht hvm hw hB hz1 hk1 hS => ?_)
              obtain ⟨hP1, hK1, hD1⟩ := hB
              rw [ht] at hP1
              obtain ⟨hP, hD⟩ := va_join (wr := [(h, .inr (13, [ms_h, .ref wd, ms_size, ms_block, ms_gathered, ms_filled, ms_total, ms_blocks])), (wd, .inl (cI, 64, .inl f)), (bl, .inl (cB, 64, .inl b))]) (w1 := []) hP hD [] [0, 1, 2] rfl rfl (by decide) (by decide) hk1 hFc hP1 hD1
              generalize H1 = H at hP hS ⊢
              have hP : va_P (dC, dI) classes [(h, .inr (13, [ms_h, .ref wd, ms_size, ms_block, ms_gathered, ms_filled, ms_total, ms_blocks])), (wd, .inl (cI, 64, .inl f)), (bl, .inl (cB, 64, .inl b))] H := hP
              have hD : va_D A [(h, .inr (13, [ms_h, .ref wd, ms_size, ms_block, ms_gathered, ms_filled, ms_total, ms_blocks])), (wd, .inl (cI, 64, .inl f)), (bl, .inl (cB, 64, .inl b))] := hD
              subst hw
              refine lv_iload hx hb d_MS_spread_90 (lv_at hl 1 rfl) ?_
              refine lv_bipush (v := 19) hx hb d_MS_spread_92 (by decide) ?_
              have hPc := hP.sub (ws' := []) [] rfl
              have hDc := hD.sub (ws' := []) [] (by decide) rfl
              have hFc := va_free (wc := []) hD hS hA [] rfl
              refine va_calli (va_runS (As := [.int (f (k - 2)), .int 19]) (rest := [.int (sh_rr (f (k - 2)) 17)]) ⟨hx, hb, hml, hown, hts⟩ (m_Ig_rotR l dC dI cI cB cL cZ cR (f (k - 2)) 19 H.size ) ⟨callB_of 2 hts (xg_in gw_1807) rfl rfl rfl (hts _ gw_25) (hts _ gw_1805) (by decide +kernel) ⟨Nat.le_of_ble_eq_true rfl, Nat.le_of_ble_eq_true rfl⟩, hts _ gw_1806⟩ ⟨xw_blind, fun U hU hW => ⟨rfl, by rw [hU], by rw [hU]; exact hPc, va_K.moved hW.alike hK, hDc.weaken (fun _ _ _ _ => trivial)⟩⟩ rfl rfl hl.1 rfl (lv_room (Nat.le_of_ble_eq_true rfl)) d_MS_spread_94 ⟨Nat.le_of_ble_eq_true rfl, Nat.le_of_ble_eq_true rfl⟩) hS (fun q _ h => hFc q h) hFc (fun r9 u t H1 locs ht hvm hw hB hz1 hk1 hS => ?_)
              obtain ⟨hP1, hK1, hD1⟩ := hB
              rw [ht] at hP1
              obtain ⟨hP, hD⟩ := va_join (wr := [(h, .inr (13, [ms_h, .ref wd, ms_size, ms_block, ms_gathered, ms_filled, ms_total, ms_blocks])), (wd, .inl (cI, 64, .inl f)), (bl, .inl (cB, 64, .inl b))]) (w1 := []) hP hD [] [0, 1, 2] rfl rfl (by decide) (by decide) hk1 hFc hP1 hD1
              generalize H1 = H at hP hS ⊢
              have hP : va_P (dC, dI) classes [(h, .inr (13, [ms_h, .ref wd, ms_size, ms_block, ms_gathered, ms_filled, ms_total, ms_blocks])), (wd, .inl (cI, 64, .inl f)), (bl, .inl (cB, 64, .inl b))] H := hP
              have hD : va_D A [(h, .inr (13, [ms_h, .ref wd, ms_size, ms_block, ms_gathered, ms_filled, ms_total, ms_blocks])), (wd, .inl (cI, 64, .inl f)), (bl, .inl (cB, 64, .inl b))] := hD
              subst hw
              refine lv_ixor hx hb d_MS_spread_97 ?_
              refine lv_iload hx hb d_MS_spread_98 (lv_at hl 1 rfl) ?_
              refine lv_bipush (v := 10) hx hb d_MS_spread_100 (by decide) ?_
              refine lv_iushr hx hb d_MS_spread_102 rfl ?_
              refine lv_ixor hx hb d_MS_spread_103 ?_
              refine lv_topi (fun x_4 ex_4 => ?_)
              obtain rfl : x_4 = sh_high (f (k - 2)) := by rw [ex_4]; first | done | (rw [sh_rr_17, sh_rr_19]; rfl)
              refine lv_istore (lv' := [(7, .int (sh_high (f (k - 2)))), (6, .int (sh_low (f (k - 15)))), (5, .int (f (k - 2))), (4, .int (f (k - 15))), (0, .ref h), (1, .ref bl), (3, .int (nI k))]) hx hb d_MS_spread_104 hl (by decide) rfl (fun ls hl => ?_)
              refine lv_aload_n hx hb d_MS_spread_106 rfl (lv_at hl 4 rfl) ?_
              refine va_get (D := (dC, dI)) (ci := 13) (v := .ref wd) (C := R_MS) (T := F_MS) (N := 8) hx hb hts i_MS hown hK hP 0 rfl rfl 1 (by decide) (hts _ gw_1391) (fun _ h9 => h9) rfl d_MS_spread_107 ?_
              refine lv_iload_n hx hb d_MS_spread_110 rfl (lv_at hl 6 rfl) ?_
              refine lv_aload_n hx hb d_MS_spread_111 rfl (lv_at hl 4 rfl) ?_
              refine va_get (D := (dC, dI)) (ci := 13) (v := .ref wd) (C := R_MS) (T := F_MS) (N := 8) hx hb hts i_MS hown hK hP 0 rfl rfl 1 (by decide) (hts _ gw_1391) (fun _ h9 => h9) rfl d_MS_spread_112 ?_
              refine lv_iload_n hx hb d_MS_spread_115 rfl (lv_at hl 6 rfl) ?_
              refine lv_bipush (v := 16) hx hb d_MS_spread_116 (by decide) ?_
              refine lv_isub hx hb d_MS_spread_118 ?_
              refine lv_topi (fun x_5 ex_5 => ?_)
              obtain rfl : x_5 = nI (k - 16) := by rw [ex_5]; first | done | (exact pk_sub (b := 16) (by omega))
              refine va_iald hx hb hK hP 1 0 rfl rfl (vp_in_nI (by omega) (by omega)) d_MS_spread_119 ?_
              rw [show (nI (k - 16)).toNatClampNeg = (k - 16) from nI_clamp (by omega)]
              refine lv_iload hx hb d_MS_spread_120 (lv_at hl 1 rfl) ?_
              refine lv_iadd hx hb d_MS_spread_122 ?_
              refine lv_aload_n hx hb d_MS_spread_123 rfl (lv_at hl 4 rfl) ?_
              refine va_get (D := (dC, dI)) (ci := 13) (v := .ref wd) (C := R_MS) (T := F_MS) (N := 8) hx hb hts i_MS hown hK hP 0 rfl rfl 1 (by decide) (hts _ gw_1391) (fun _ h9 => h9) rfl d_MS_spread_124 ?_
              refine lv_iload_n hx hb d_MS_spread_127 rfl (lv_at hl 6 rfl) ?_
              refine lv_bipush (v := 7) hx hb d_MS_spread_128 (by decide) ?_
              refine lv_isub hx hb d_MS_spread_130 ?_
              refine lv_topi (fun x_6 ex_6 => ?_)
              obtain rfl : x_6 = nI (k - 7) := by rw [ex_6]; first | done | (exact pk_sub (b := 7) (by omega))
              refine va_iald hx hb hK hP 1 0 rfl rfl (vp_in_nI (by omega) (by omega)) d_MS_spread_131 ?_
              rw [show (nI (k - 7)).toNatClampNeg = (k - 7) from nI_clamp (by omega)]
              refine lv_iadd hx hb d_MS_spread_132 ?_
              refine lv_iload hx hb d_MS_spread_133 (lv_at hl 0 rfl) ?_
              refine lv_iadd hx hb d_MS_spread_135 ?_
              refine lv_topi (fun x_7 ex_7 => ?_)
              obtain rfl : x_7 = ((f (k - 16) + sh_low (f (k - 15))) + f (k - 7)) + sh_high (f (k - 2)) := by rw [ex_7]; first | done | (rfl)
              refine va_iast hx hb hK hP hD hS 1 0 rfl rfl (vp_in_nI (by omega) (by omega)) d_MS_spread_136 (fun H locs hP hD hS => ?_)
              rw [show (nI k).toNatClampNeg = k from nI_clamp (by omega)] at hP hD
              have hP : va_P (dC, dI) classes [(h, .inr (13, [ms_h, .ref wd, ms_size, ms_block, ms_gathered, ms_filled, ms_total, ms_blocks])), (wd, .inl (cI, 64, .inl (upd f k (((f (k - 16) + sh_low (f (k - 15))) + f (k - 7)) + sh_high (f (k - 2)))))), (bl, .inl (cB, 64, .inl b))] H := hP
              have hD : va_D A [(h, .inr (13, [ms_h, .ref wd, ms_size, ms_block, ms_gathered, ms_filled, ms_total, ms_blocks])), (wd, .inl (cI, 64, .inl (upd f k (((f (k - 16) + sh_low (f (k - 15))) + f (k - 7)) + sh_high (f (k - 2)))))), (bl, .inl (cB, 64, .inl b))] := hD
              refine lv_iinc (v := nI (k + 1)) (lv' := [(3, .int (nI (k + 1))), (7, .int (sh_high (f (k - 2)))), (6, .int (sh_low (f (k - 15)))), (5, .int (f (k - 2))), (4, .int (f (k - 15))), (0, .ref h), (1, .ref bl)]) hx hb d_MS_spread_137 hl (k := 6) rfl (by exact nI_1 k) (by decide) rfl (fun ls hl => ?_)
              refine lv_goto (tgt := 34) hx hb d_MS_spread_140 (by decide) ?_
              exact ih_34 (k + 1) (upd f k (((f (k - 16) + sh_low (f (k - 15))) + f (k - 7)) + sh_high (f (k - 2)))) _ _ _ (by omega) (by omega) (sh_w_step hf (sh_w_hi hk.1 hf)) hP hD hS (lv_sub hl [5, 6, 0] rfl)
        exact loop_34 _ 16 f _ _ _ (Nat.lt_succ_self _) (⟨Nat.le_refl _, by omega⟩) (hf) hP hD hS (lv_sub hl [1, 2, 0] rfl)
      · have hk6 : k < 16 := by rcases Nat.lt_or_ge k 16 with z | z; exact z; exact absurd (nI_le (a := 16) z (by omega)) c_5
        refine lv_aload_n hx hb d_MS_spread_8 rfl (lv_at hl 0 rfl) ?_
        refine va_get (D := (dC, dI)) (ci := 13) (v := .ref wd) (C := R_MS) (T := F_MS) (N := 8) hx hb hts i_MS hown hK hP 0 rfl rfl 1 (by decide) (hts _ gw_1391) (fun _ h9 => h9) rfl d_MS_spread_9 ?_
        refine lv_iload_n hx hb d_MS_spread_12 rfl (lv_at hl 3 rfl) ?_
        refine lv_aload_n hx hb d_MS_spread_13 rfl (lv_at hl 1 rfl) ?_
        refine lv_iload_n hx hb d_MS_spread_14 rfl (lv_at hl 2 rfl) ?_
        refine lv_iconst (v := 4) hx hb d_MS_spread_15 (by decide) ?_
        refine lv_iload_n hx hb d_MS_spread_16 rfl (lv_at hl 3 rfl) ?_
        refine lv_imul hx hb d_MS_spread_17 ?_
        refine lv_topi (fun x_8 ex_8 => ?_)
        obtain rfl : x_8 = nI (4 * k) := by rw [ex_8]; first | done | (exact pk_mul 4 k)
        refine lv_iadd hx hb d_MS_spread_18 ?_
        refine lv_topi (fun x_9 ex_9 => ?_)
        obtain rfl : x_9 = nI (4 * k) := by rw [ex_9]; first | done | (exact Int32.zero_add _)
        refine lv_iconst (v := 4) hx hb d_MS_spread_19 (by decide) ?_
        have hPc := hP.sub (ws' := [(bl, .inl (cB, 64, .inl b))]) [2] rfl
        have hDc := hD.sub (ws' := [(bl, .inl (cB, 64, .inl b))]) [2] (by decide) rfl
        have hFc := va_free (wc := [(bl, .inl (cB, 64, .inl b))]) hD hS hA [2] rfl
        refine va_calll (va_runSN (As := [.ref bl, .int (nI (4 * k)), .int 4]) (rest := [.int (nI k), .ref wd]) ⟨hx, hb, hml, hown, hts⟩ (m_Md_number4 l dC dI cI cB cL cZ cR bl 64 (4 * k) b H.size (by decide) (by omega)) ⟨va_cnB 3 hts (xg_in gw_1804) rfl rfl rfl (hN _ gn_1802) (hts _ gw_13) (by decide +kernel) ⟨Nat.le_of_ble_eq_true rfl, Nat.le_of_ble_eq_true rfl⟩, hts _ gw_1803, trivial⟩ ⟨xw_blind, fun U hU hW => ⟨rfl, by rw [hU], by rw [hU]; exact hPc, va_K.moved hW.alike hK, hDc.weaken (fun _ _ _ _ => trivial)⟩⟩ rfl rfl hl.1 rfl (lv_room (Nat.le_of_ble_eq_true rfl)) d_MS_spread_20 ⟨Nat.le_of_ble_eq_true rfl, Nat.le_of_ble_eq_true rfl⟩) hS (fun q _ h => hFc q h) hFc (fun r9 u t H1 locs ht hvm hw hB hz1 hk1 hS => ?_)
        obtain ⟨hP1, hK1, hD1⟩ := hB
        rw [ht] at hP1
        obtain ⟨hP, hD⟩ := va_join (wr := [(h, .inr (13, [ms_h, .ref wd, ms_size, ms_block, ms_gathered, ms_filled, ms_total, ms_blocks])), (wd, .inl (cI, 64, .inl f))]) (w1 := [(bl, .inl (cB, 64, .inl b))]) hP hD [2] [0, 1] rfl rfl (by decide) (by decide) hk1 hFc hP1 hD1
        generalize H1 = H at hP hS ⊢
        have hP : va_P (dC, dI) classes [(h, .inr (13, [ms_h, .ref wd, ms_size, ms_block, ms_gathered, ms_filled, ms_total, ms_blocks])), (wd, .inl (cI, 64, .inl f)), (bl, .inl (cB, 64, .inl b))] H := hP
        have hD : va_D A [(h, .inr (13, [ms_h, .ref wd, ms_size, ms_block, ms_gathered, ms_filled, ms_total, ms_blocks])), (wd, .inl (cI, 64, .inl f)), (bl, .inl (cB, 64, .inl b))] := hD
        subst hw
        refine lv_l2i hx hb d_MS_spread_23 rfl ?_
        refine lv_topi (fun x_10 ex_10 => ?_)
        obtain rfl : x_10 = sh_be b k := by rw [ex_10]; first | done | (exact md_num32 b (4 * k))
        refine va_iast hx hb hK hP hD hS 1 0 rfl rfl (vp_in_nI (by omega) (by omega)) d_MS_spread_24 (fun H locs hP hD hS => ?_)
        rw [show (nI k).toNatClampNeg = k from nI_clamp (by omega)] at hP hD
        have hP : va_P (dC, dI) classes [(h, .inr (13, [ms_h, .ref wd, ms_size, ms_block, ms_gathered, ms_filled, ms_total, ms_blocks])), (wd, .inl (cI, 64, .inl (upd f k (sh_be b k)))), (bl, .inl (cB, 64, .inl b))] H := hP
        have hD : va_D A [(h, .inr (13, [ms_h, .ref wd, ms_size, ms_block, ms_gathered, ms_filled, ms_total, ms_blocks])), (wd, .inl (cI, 64, .inl (upd f k (sh_be b k)))), (bl, .inl (cB, 64, .inl b))] := hD
        refine lv_iinc (v := nI (k + 1)) (lv' := [(3, .int (nI (k + 1))), (0, .ref h), (1, .ref bl), (2, .int 0)]) hx hb d_MS_spread_25 hl (k := 3) rfl (by exact nI_1 k) (by decide) rfl (fun ls hl => ?_)
        refine lv_goto (tgt := 2) hx hb d_MS_spread_28 (by decide) ?_
        exact ih_2 (k + 1) (upd f k (sh_be b k)) _ _ _ (by omega) (by omega) (sh_w_step hf (by unfold sh_wstep; rw [if_pos hk6])) hP hD hS (lv_sub hl [1, 2, 3, 0] rfl)
  exact loop_2 _ 0 f0 _ _ _ (Nat.lt_succ_self _) (Nat.zero_le _) (fun j hj => absurd hj (Nat.not_lt_zero j)) hP hD hS (lv_sub hl [1, 2, 3, 0] rfl)
