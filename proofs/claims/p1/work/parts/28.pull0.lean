/-! 28.pull0.lean.txt -/
theorem gw_36 : (Jvm.Cond.initialized "java/lang/Long") ∈ xg_1 := xg_s1 36 rfl rfl
theorem gw_528 : (Jvm.Cond.fieldLink "PatchStore" (163 : Nat) "PatchStore$Repository" "members" "[J") ∈ xg_1 := xg_s3 48 rfl rfl
theorem gw_531 : (Jvm.Cond.fieldLink "PatchStore$Repository" (35 : Nat) "PatchStore$Repository" "size" "I") ∈ xg_1 := xg_s3 51 rfl rfl
theorem gw_866 : (Jvm.Cond.constantLong "PatchStore$Repository" (23 : Nat) (-1 : Int64)) ∈ xg_1 := xg_s4 146 rfl rfl
theorem gw_1230 : (Jvm.Cond.methodLink "PatchStore" (167 : Nat) ({ cls := "PatchStore$Repository", name := "takeAll", desc := "([JI)I" } : Jvm.MethodName)) ∈ xg_1 := xg_s6 30 rfl rfl
theorem gw_1231 : (Jvm.Cond.instanceMethod ({ cls := "PatchStore$Repository", name := "takeAll", desc := "([JI)I" } : Jvm.MethodName)) ∈ xg_1 := xg_s6 31 rfl rfl
theorem gw_1232 : (Jvm.Cond.selects "PatchStore$Repository" ({ cls := "PatchStore$Repository", name := "takeAll", desc := "([JI)I" } : Jvm.MethodName) ({ cls := "PatchStore$Repository", name := "takeAll", desc := "([JI)I" } : Jvm.MethodName)) ∈ xg_1 := xg_s6 32 rfl rfl
theorem gw_1233 : (Jvm.Cond.code ({ cls := "PatchStore$Repository", name := "takeAll", desc := "([JI)I" } : Jvm.MethodName) prog_8_method_6_code (5 : Nat) (Option.some Jvm.ClassFile.FieldType.int)) ∈ xg_1 := xg_s6 33 rfl rfl
theorem gw_1234 : (Jvm.Cond.methodLink "PatchStore$Repository" (25 : Nat) ({ cls := "java/lang/Long", name := "bitCount", desc := "(J)I" } : Jvm.MethodName)) ∈ xg_1 := xg_s6 34 rfl rfl
theorem gw_1235 : (Jvm.Cond.static ({ cls := "java/lang/Long", name := "bitCount", desc := "(J)I" } : Jvm.MethodName)) ∈ xg_1 := xg_s6 35 rfl rfl
theorem gw_1236 : (Jvm.Cond.code ({ cls := "java/lang/Long", name := "bitCount", desc := "(J)I" } : Jvm.MethodName) prog_26_method_50_code (2 : Nat) (Option.some Jvm.ClassFile.FieldType.int)) ∈ xg_1 := xg_s6 36 rfl rfl
theorem gw_1237 : (Jvm.Cond.constantLong "java/lang/Long" (314 : Nat) (6148914691236517205 : Int64)) ∈ xg_1 := xg_s6 37 rfl rfl
theorem gw_1238 : (Jvm.Cond.constantLong "java/lang/Long" (316 : Nat) (3689348814741910323 : Int64)) ∈ xg_1 := xg_s6 38 rfl rfl
theorem gw_1239 : (Jvm.Cond.constantLong "java/lang/Long" (318 : Nat) (1085102592571150095 : Int64)) ∈ xg_1 := xg_s6 39 rfl rfl
def y_Lo_bitCount : MethodName := ⟨"java/lang/Long", "bitCount", "(J)I"⟩
abbrev c_Lo_bitCount : Cond := (Jvm.Cond.code ({ cls := "java/lang/Long", name := "bitCount", desc := "(J)I" } : Jvm.MethodName) prog_26_method_50_code (2 : Nat) (Option.some Jvm.ClassFile.FieldType.int))
abbrev ws_Lo_bitCount : List Cond := c_Lo_bitCount :: xg_1
theorem d_Lo_bitCount_0 : decode prog_26_method_50_code 0 = .ok (.lload_n 0, 1) := by decide +kernel
theorem d_Lo_bitCount_1 : decode prog_26_method_50_code 1 = .ok (.lload_n 0, 1) := by decide +kernel
theorem d_Lo_bitCount_2 : decode prog_26_method_50_code 2 = .ok (.iconst 1, 1) := by decide +kernel
theorem d_Lo_bitCount_3 : decode prog_26_method_50_code 3 = .ok (.lushr, 1) := by decide +kernel
theorem d_Lo_bitCount_4 : decode prog_26_method_50_code 4 = .ok (.ldc2_w 314, 3) := by decide +kernel
theorem d_Lo_bitCount_7 : decode prog_26_method_50_code 7 = .ok (.land, 1) := by decide +kernel
theorem d_Lo_bitCount_8 : decode prog_26_method_50_code 8 = .ok (.lsub, 1) := by decide +kernel
theorem d_Lo_bitCount_9 : decode prog_26_method_50_code 9 = .ok (.lstore_n 0, 1) := by decide +kernel
theorem d_Lo_bitCount_10 : decode prog_26_method_50_code 10 = .ok (.lload_n 0, 1) := by decide +kernel
theorem d_Lo_bitCount_11 : decode prog_26_method_50_code 11 = .ok (.ldc2_w 316, 3) := by decide +kernel
theorem d_Lo_bitCount_14 : decode prog_26_method_50_code 14 = .ok (.land, 1) := by decide +kernel
theorem d_Lo_bitCount_15 : decode prog_26_method_50_code 15 = .ok (.lload_n 0, 1) := by decide +kernel
theorem d_Lo_bitCount_16 : decode prog_26_method_50_code 16 = .ok (.iconst 2, 1) := by decide +kernel
theorem d_Lo_bitCount_17 : decode prog_26_method_50_code 17 = .ok (.lushr, 1) := by decide +kernel
theorem d_Lo_bitCount_18 : decode prog_26_method_50_code 18 = .ok (.ldc2_w 316, 3) := by decide +kernel
theorem d_Lo_bitCount_21 : decode prog_26_method_50_code 21 = .ok (.land, 1) := by decide +kernel
theorem d_Lo_bitCount_22 : decode prog_26_method_50_code 22 = .ok (.ladd, 1) := by decide +kernel
theorem d_Lo_bitCount_23 : decode prog_26_method_50_code 23 = .ok (.lstore_n 0, 1) := by decide +kernel
theorem d_Lo_bitCount_24 : decode prog_26_method_50_code 24 = .ok (.lload_n 0, 1) := by decide +kernel
theorem d_Lo_bitCount_25 : decode prog_26_method_50_code 25 = .ok (.lload_n 0, 1) := by decide +kernel
theorem d_Lo_bitCount_26 : decode prog_26_method_50_code 26 = .ok (.iconst 4, 1) := by decide +kernel
theorem d_Lo_bitCount_27 : decode prog_26_method_50_code 27 = .ok (.lushr, 1) := by decide +kernel
theorem d_Lo_bitCount_28 : decode prog_26_method_50_code 28 = .ok (.ladd, 1) := by decide +kernel
theorem d_Lo_bitCount_29 : decode prog_26_method_50_code 29 = .ok (.ldc2_w 318, 3) := by decide +kernel
theorem d_Lo_bitCount_32 : decode prog_26_method_50_code 32 = .ok (.land, 1) := by decide +kernel
theorem d_Lo_bitCount_33 : decode prog_26_method_50_code 33 = .ok (.lstore_n 0, 1) := by decide +kernel
theorem d_Lo_bitCount_34 : decode prog_26_method_50_code 34 = .ok (.lload_n 0, 1) := by decide +kernel
theorem d_Lo_bitCount_35 : decode prog_26_method_50_code 35 = .ok (.lload_n 0, 1) := by decide +kernel
theorem d_Lo_bitCount_36 : decode prog_26_method_50_code 36 = .ok (.bipush 8, 2) := by decide +kernel
theorem d_Lo_bitCount_38 : decode prog_26_method_50_code 38 = .ok (.lushr, 1) := by decide +kernel
theorem d_Lo_bitCount_39 : decode prog_26_method_50_code 39 = .ok (.ladd, 1) := by decide +kernel
theorem d_Lo_bitCount_40 : decode prog_26_method_50_code 40 = .ok (.lstore_n 0, 1) := by decide +kernel
theorem d_Lo_bitCount_41 : decode prog_26_method_50_code 41 = .ok (.lload_n 0, 1) := by decide +kernel
theorem d_Lo_bitCount_42 : decode prog_26_method_50_code 42 = .ok (.lload_n 0, 1) := by decide +kernel
theorem d_Lo_bitCount_43 : decode prog_26_method_50_code 43 = .ok (.bipush 16, 2) := by decide +kernel
theorem d_Lo_bitCount_45 : decode prog_26_method_50_code 45 = .ok (.lushr, 1) := by decide +kernel
theorem d_Lo_bitCount_46 : decode prog_26_method_50_code 46 = .ok (.ladd, 1) := by decide +kernel
theorem d_Lo_bitCount_47 : decode prog_26_method_50_code 47 = .ok (.lstore_n 0, 1) := by decide +kernel
theorem d_Lo_bitCount_48 : decode prog_26_method_50_code 48 = .ok (.lload_n 0, 1) := by decide +kernel
theorem d_Lo_bitCount_49 : decode prog_26_method_50_code 49 = .ok (.lload_n 0, 1) := by decide +kernel
theorem d_Lo_bitCount_50 : decode prog_26_method_50_code 50 = .ok (.bipush 32, 2) := by decide +kernel
theorem d_Lo_bitCount_52 : decode prog_26_method_50_code 52 = .ok (.lushr, 1) := by decide +kernel
theorem d_Lo_bitCount_53 : decode prog_26_method_50_code 53 = .ok (.ladd, 1) := by decide +kernel
theorem d_Lo_bitCount_54 : decode prog_26_method_50_code 54 = .ok (.lstore_n 0, 1) := by decide +kernel
theorem d_Lo_bitCount_55 : decode prog_26_method_50_code 55 = .ok (.lload_n 0, 1) := by decide +kernel
theorem d_Lo_bitCount_56 : decode prog_26_method_50_code 56 = .ok (.l2i, 1) := by decide +kernel
theorem d_Lo_bitCount_57 : decode prog_26_method_50_code 57 = .ok (.bipush 127, 2) := by decide +kernel
theorem d_Lo_bitCount_59 : decode prog_26_method_50_code 59 = .ok (.iand, 1) := by decide +kernel
theorem d_Lo_bitCount_60 : decode prog_26_method_50_code 60 = .ok (.ireturn, 1) := by decide +kernel
def y_Re_takeAll : MethodName := ⟨"PatchStore$Repository", "takeAll", "([JI)I"⟩
abbrev c_Re_takeAll : Cond := (Jvm.Cond.code ({ cls := "PatchStore$Repository", name := "takeAll", desc := "([JI)I" } : Jvm.MethodName) prog_8_method_6_code (5 : Nat) (Option.some Jvm.ClassFile.FieldType.int))
abbrev ws_Re_takeAll : List Cond := c_Re_takeAll :: xg_1
theorem d_Re_takeAll_0 : decode prog_8_method_6_code 0 = .ok (.aload_n 0, 1) := by decide +kernel
theorem d_Re_takeAll_1 : decode prog_8_method_6_code 1 = .ok (.getfield 35, 3) := by decide +kernel
theorem d_Re_takeAll_4 : decode prog_8_method_6_code 4 = .ok (.istore_n 3, 1) := by decide +kernel
theorem d_Re_takeAll_5 : decode prog_8_method_6_code 5 = .ok (.iconst 0, 1) := by decide +kernel
theorem d_Re_takeAll_6 : decode prog_8_method_6_code 6 = .ok (.istore 4, 2) := by decide +kernel
theorem d_Re_takeAll_8 : decode prog_8_method_6_code 8 = .ok (.iload 4, 2) := by decide +kernel
theorem d_Re_takeAll_10 : decode prog_8_method_6_code 10 = .ok (.bipush 8, 2) := by decide +kernel
theorem d_Re_takeAll_12 : decode prog_8_method_6_code 12 = .ok (.if_icmp .ge 55, 3) := by decide +kernel
theorem d_Re_takeAll_15 : decode prog_8_method_6_code 15 = .ok (.aload_n 0, 1) := by decide +kernel
theorem d_Re_takeAll_16 : decode prog_8_method_6_code 16 = .ok (.dup, 1) := by decide +kernel
theorem d_Re_takeAll_17 : decode prog_8_method_6_code 17 = .ok (.getfield 35, 3) := by decide +kernel
theorem d_Re_takeAll_20 : decode prog_8_method_6_code 20 = .ok (.aload_n 1, 1) := by decide +kernel
theorem d_Re_takeAll_21 : decode prog_8_method_6_code 21 = .ok (.iload_n 2, 1) := by decide +kernel
theorem d_Re_takeAll_22 : decode prog_8_method_6_code 22 = .ok (.iload 4, 2) := by decide +kernel
theorem d_Re_takeAll_24 : decode prog_8_method_6_code 24 = .ok (.iadd, 1) := by decide +kernel
theorem d_Re_takeAll_25 : decode prog_8_method_6_code 25 = .ok (.laload, 1) := by decide +kernel
theorem d_Re_takeAll_26 : decode prog_8_method_6_code 26 = .ok (.aload_n 0, 1) := by decide +kernel
theorem d_Re_takeAll_27 : decode prog_8_method_6_code 27 = .ok (.getfield 9, 3) := by decide +kernel
theorem d_Re_takeAll_30 : decode prog_8_method_6_code 30 = .ok (.iload 4, 2) := by decide +kernel
theorem d_Re_takeAll_32 : decode prog_8_method_6_code 32 = .ok (.laload, 1) := by decide +kernel
theorem d_Re_takeAll_33 : decode prog_8_method_6_code 33 = .ok (.ldc2_w 23, 3) := by decide +kernel
theorem d_Re_takeAll_36 : decode prog_8_method_6_code 36 = .ok (.lxor, 1) := by decide +kernel
theorem d_Re_takeAll_37 : decode prog_8_method_6_code 37 = .ok (.land, 1) := by decide +kernel
theorem d_Re_takeAll_38 : decode prog_8_method_6_code 38 = .ok (.invokestatic 25, 3) := by decide +kernel
theorem d_Re_takeAll_41 : decode prog_8_method_6_code 41 = .ok (.iadd, 1) := by decide +kernel
theorem d_Re_takeAll_42 : decode prog_8_method_6_code 42 = .ok (.putfield 35, 3) := by decide +kernel
theorem d_Re_takeAll_45 : decode prog_8_method_6_code 45 = .ok (.aload_n 0, 1) := by decide +kernel
theorem d_Re_takeAll_46 : decode prog_8_method_6_code 46 = .ok (.getfield 9, 3) := by decide +kernel
theorem d_Re_takeAll_49 : decode prog_8_method_6_code 49 = .ok (.iload 4, 2) := by decide +kernel
theorem d_Re_takeAll_51 : decode prog_8_method_6_code 51 = .ok (.dup2, 1) := by decide +kernel
theorem d_Re_takeAll_52 : decode prog_8_method_6_code 52 = .ok (.laload, 1) := by decide +kernel
theorem d_Re_takeAll_53 : decode prog_8_method_6_code 53 = .ok (.aload_n 1, 1) := by decide +kernel
theorem d_Re_takeAll_54 : decode prog_8_method_6_code 54 = .ok (.iload_n 2, 1) := by decide +kernel
theorem d_Re_takeAll_55 : decode prog_8_method_6_code 55 = .ok (.iload 4, 2) := by decide +kernel
theorem d_Re_takeAll_57 : decode prog_8_method_6_code 57 = .ok (.iadd, 1) := by decide +kernel
theorem d_Re_takeAll_58 : decode prog_8_method_6_code 58 = .ok (.laload, 1) := by decide +kernel
theorem d_Re_takeAll_59 : decode prog_8_method_6_code 59 = .ok (.lor, 1) := by decide +kernel
theorem d_Re_takeAll_60 : decode prog_8_method_6_code 60 = .ok (.lastore, 1) := by decide +kernel
theorem d_Re_takeAll_61 : decode prog_8_method_6_code 61 = .ok (.iinc 4 1, 3) := by decide +kernel
theorem d_Re_takeAll_64 : decode prog_8_method_6_code 64 = .ok (.goto (-56), 3) := by decide +kernel
theorem d_Re_takeAll_67 : decode prog_8_method_6_code 67 = .ok (.aload_n 0, 1) := by decide +kernel
theorem d_Re_takeAll_68 : decode prog_8_method_6_code 68 = .ok (.getfield 35, 3) := by decide +kernel
theorem d_Re_takeAll_71 : decode prog_8_method_6_code 71 = .ok (.iload_n 3, 1) := by decide +kernel
theorem d_Re_takeAll_72 : decode prog_8_method_6_code 72 = .ok (.if_icmp .eq 13, 3) := by decide +kernel
theorem d_Re_takeAll_75 : decode prog_8_method_6_code 75 = .ok (.aload_n 0, 1) := by decide +kernel
theorem d_Re_takeAll_76 : decode prog_8_method_6_code 76 = .ok (.dup, 1) := by decide +kernel
theorem d_Re_takeAll_77 : decode prog_8_method_6_code 77 = .ok (.getfield 38, 3) := by decide +kernel
theorem d_Re_takeAll_80 : decode prog_8_method_6_code 80 = .ok (.iconst 1, 1) := by decide +kernel
theorem d_Re_takeAll_81 : decode prog_8_method_6_code 81 = .ok (.iadd, 1) := by decide +kernel
theorem d_Re_takeAll_82 : decode prog_8_method_6_code 82 = .ok (.putfield 38, 3) := by decide +kernel
theorem d_Re_takeAll_85 : decode prog_8_method_6_code 85 = .ok (.aload_n 0, 1) := by decide +kernel
theorem d_Re_takeAll_86 : decode prog_8_method_6_code 86 = .ok (.getfield 35, 3) := by decide +kernel
theorem d_Re_takeAll_89 : decode prog_8_method_6_code 89 = .ok (.iload_n 3, 1) := by decide +kernel
theorem d_Re_takeAll_90 : decode prog_8_method_6_code 90 = .ok (.isub, 1) := by decide +kernel
theorem d_Re_takeAll_91 : decode prog_8_method_6_code 91 = .ok (.ireturn, 1) := by decide +kernel
def y_PS_pull : MethodName := ⟨"PatchStore", "pull", "(III)I"⟩
abbrev c_PS_pull : Cond := (Jvm.Cond.code ({ cls := "PatchStore", name := "pull", desc := "(III)I" } : Jvm.MethodName) prog_1_method_10_code (6 : Nat) (Option.some Jvm.ClassFile.FieldType.int))
abbrev ws_PS_pull : List Cond := c_PS_pull :: xg_1
theorem d_PS_pull_0 : decode prog_1_method_10_code 0 = .ok (.aload_n 0, 1) := by decide +kernel
theorem d_PS_pull_1 : decode prog_1_method_10_code 1 = .ok (.iload_n 1, 1) := by decide +kernel
theorem d_PS_pull_2 : decode prog_1_method_10_code 2 = .ok (.invokevirtual 90, 3) := by decide +kernel
theorem d_PS_pull_5 : decode prog_1_method_10_code 5 = .ok (.astore 4, 2) := by decide +kernel
theorem d_PS_pull_7 : decode prog_1_method_10_code 7 = .ok (.aload_n 0, 1) := by decide +kernel
theorem d_PS_pull_8 : decode prog_1_method_10_code 8 = .ok (.iload_n 2, 1) := by decide +kernel
theorem d_PS_pull_9 : decode prog_1_method_10_code 9 = .ok (.invokevirtual 90, 3) := by decide +kernel
theorem d_PS_pull_12 : decode prog_1_method_10_code 12 = .ok (.astore 5, 2) := by decide +kernel
theorem d_PS_pull_14 : decode prog_1_method_10_code 14 = .ok (.iload_n 3, 1) := by decide +kernel
theorem d_PS_pull_15 : decode prog_1_method_10_code 15 = .ok (.ifCond .ge 15, 3) := by decide +kernel
theorem d_PS_pull_18 : decode prog_1_method_10_code 18 = .ok (.aload 4, 2) := by decide +kernel
theorem d_PS_pull_20 : decode prog_1_method_10_code 20 = .ok (.aload 5, 2) := by decide +kernel
theorem d_PS_pull_22 : decode prog_1_method_10_code 22 = .ok (.getfield 163, 3) := by decide +kernel
theorem d_PS_pull_25 : decode prog_1_method_10_code 25 = .ok (.iconst 0, 1) := by decide +kernel
theorem d_PS_pull_26 : decode prog_1_method_10_code 26 = .ok (.invokevirtual 167, 3) := by decide +kernel
theorem d_PS_pull_29 : decode prog_1_method_10_code 29 = .ok (.ireturn, 1) := by decide +kernel
theorem d_PS_pull_30 : decode prog_1_method_10_code 30 = .ok (.aload 5, 2) := by decide +kernel
theorem d_PS_pull_32 : decode prog_1_method_10_code 32 = .ok (.iload_n 3, 1) := by decide +kernel
theorem d_PS_pull_33 : decode prog_1_method_10_code 33 = .ok (.invokevirtual 171, 3) := by decide +kernel
theorem d_PS_pull_36 : decode prog_1_method_10_code 36 = .ok (.ifCond .ne 11, 3) := by decide +kernel
theorem d_PS_pull_39 : decode prog_1_method_10_code 39 = .ok (.new 174, 3) := by decide +kernel
theorem d_PS_pull_42 : decode prog_1_method_10_code 42 = .ok (.dup, 1) := by decide +kernel
theorem d_PS_pull_43 : decode prog_1_method_10_code 43 = .ok (.invokespecial 176, 3) := by decide +kernel
theorem d_PS_pull_46 : decode prog_1_method_10_code 46 = .ok (.athrow, 1) := by decide +kernel
theorem d_PS_pull_47 : decode prog_1_method_10_code 47 = .ok (.aload 4, 2) := by decide +kernel
theorem d_PS_pull_49 : decode prog_1_method_10_code 49 = .ok (.aload_n 0, 1) := by decide +kernel
theorem d_PS_pull_50 : decode prog_1_method_10_code 50 = .ok (.getfield 30, 3) := by decide +kernel
theorem d_PS_pull_53 : decode prog_1_method_10_code 53 = .ok (.getfield 177, 3) := by decide +kernel
theorem d_PS_pull_56 : decode prog_1_method_10_code 56 = .ok (.iload_n 3, 1) := by decide +kernel
theorem d_PS_pull_57 : decode prog_1_method_10_code 57 = .ok (.bipush 8, 2) := by decide +kernel
theorem d_PS_pull_59 : decode prog_1_method_10_code 59 = .ok (.imul, 1) := by decide +kernel
theorem d_PS_pull_60 : decode prog_1_method_10_code 60 = .ok (.invokevirtual 167, 3) := by decide +kernel
theorem d_PS_pull_63 : decode prog_1_method_10_code 63 = .ok (.aload 4, 2) := by decide +kernel
theorem d_PS_pull_65 : decode prog_1_method_10_code 65 = .ok (.iload_n 3, 1) := by decide +kernel
theorem d_PS_pull_66 : decode prog_1_method_10_code 66 = .ok (.invokevirtual 180, 3) := by decide +kernel
theorem d_PS_pull_69 : decode prog_1_method_10_code 69 = .ok (.iadd, 1) := by decide +kernel
theorem d_PS_pull_70 : decode prog_1_method_10_code 70 = .ok (.ireturn, 1) := by decide +kernel
def bc_sh (x : Int64) (k : Int32) : Int64 := (x.toUInt64 >>> ((k : Int32).toInt64.toUInt64 &&& Int64.toUInt64 63)).toInt64
def bc_1 (x : Int64) : Int64 := x - (bc_sh x 1 &&& 6148914691236517205)
def bc_2 (x : Int64) : Int64 := (x &&& 3689348814741910323) + (bc_sh x 2 &&& 3689348814741910323)
def bc_3 (x : Int64) : Int64 := (x + bc_sh x 4) &&& 1085102592571150095
def bc_4 (x : Int64) (k : Int32) : Int64 := x + bc_sh x k
/-- Long.bitCount -/
def bc (x : Int64) : Int32 := (bc_4 (bc_4 (bc_4 (bc_3 (bc_2 (bc_1 x))) 8) 16) 32).toInt32 &&& 127
theorem bc_0 : bc 0 = 0 := by decide +kernel
theorem ta_z {f : Nat → Int64} (k : Nat) {x : Int64} (h : ∀ j, j < 8 → f j = 0) (hx : x = 0) : ∀ j, j < 8 → vp_updL f k x j = 0 := by
  intro j hj
  by_cases e : j = k
  · subst e; simp only [vp_updL, if_true]; exact hx
  · simp only [vp_updL, if_neg e]; exact h j hj
set_option maxHeartbeats 4000000 in
set_option maxRecDepth 100000 in
/-- Long.bitCount -/
theorem m_Lg_bitCount (l : Launch) (dC : Nat → ClassId) (dI : Nat → Nat → Nat) (cI cB cL cZ cR : ClassId) (x : Int64) (sz : Nat) : Met l y_Lo_bitCount ws_Lo_bitCount ({ frames := 0, cells := 0, slots := 0, locals := 0 }) (xw_Pc dC dI [(cI, .int), (cB, .byte), (cL, .long), (cZ, .boolean), (cR, .object "PatchStore$Repository")] [.long x] [] sz) (va_Qi (fun (r : Int32) (_ : Unit) => r = bc x) (fun _ t => xw_B dC dI [(cI, .int), (cB, .byte), (cL, .long), (cZ, .boolean), (cR, .object "PatchStore$Repository")] (va_A [] sz) [] t) (va_A [] sz)) 0 0 (va_A [] sz) := by
  refine Met.ofW (cc := prog_26_method_50_code) (maxL := 2) (ret := (Option.some Jvm.ClassFile.FieldType.int)) (by decide) rfl ?_
  intro p e s m args below meth c s₁ B hml hv
  obtain ⟨rfl, hsz, hP, hK, hD0⟩ := hv
  have hx := B.exec
  have hb := B.bytes
  have hr := B.returns
  have hts0 := atoms_spec (ws := ws_Lo_bitCount) B.pre
  have hts : ∀ w ∈ xg_1, w.before _ s = true := fun w h => hts0 w (List.mem_cons_of_mem _ h)
  have hown : s.vm.findClass "java/lang/Long" = some m.cls := findClass_of_methodNamed B.named
  have hlocks := B.notSynchronized
  subst hsz
  have hD := hD0.self (sz := s.heap.size)
  generalize hAe : va_A [] s.heap.size = A at hD ⊢
  have hA : ∀ q : Nat, s.heap.size ≤ q → A q := fun q h => by rw [← hAe]; exact Or.inr h
  have hS : va_S A s.heap s.heap [] := va_S.rf
  have hl := lv_entry ([.long x]) (n := 2) (Nat.le_of_ble_eq_true rfl)
  rw [lg_entry_eq]
  generalize (lg_sl ([.long x]) ++ List.replicate (2 - (lg_sl ([.long x])).length) Slot.unset).toArray = ls at hl ⊢
  have hl : lv_has ls 2 [(0, .long x)] := hl
  refine lv_lload_n hx hb d_Lo_bitCount_0 rfl (lv_at hl 0 rfl) ?_
  refine lv_lload_n hx hb d_Lo_bitCount_1 rfl (lv_at hl 0 rfl) ?_
  refine lv_iconst (v := 1) hx hb d_Lo_bitCount_2 (by decide) ?_
  refine lv_lushr hx hb d_Lo_bitCount_3 rfl ?_
  refine lv_ldc2 (own := "java/lang/Long") hx hb hown (hts _ gw_1237) d_Lo_bitCount_4 ?_
  refine lv_land hx hb d_Lo_bitCount_7 ?_
  refine lv_lsub hx hb d_Lo_bitCount_8 ?_
  refine lv_topl (fun x_1 ex_1 => ?_)
  obtain rfl : x_1 = bc_1 x := by rw [ex_1]; first | done | (rfl)
  refine lv_lstore_n (lv' := [(0, .long (bc_1 x))]) hx hb d_Lo_bitCount_9 rfl hl (by decide) rfl (fun ls hl => ?_)
  refine lv_lload_n hx hb d_Lo_bitCount_10 rfl (lv_at hl 0 rfl) ?_
  refine lv_ldc2 (own := "java/lang/Long") hx hb hown (hts _ gw_1238) d_Lo_bitCount_11 ?_
  refine lv_land hx hb d_Lo_bitCount_14 ?_
  refine lv_lload_n hx hb d_Lo_bitCount_15 rfl (lv_at hl 0 rfl) ?_
  refine lv_iconst (v := 2) hx hb d_Lo_bitCount_16 (by decide) ?_
  refine lv_lushr hx hb d_Lo_bitCount_17 rfl ?_
  refine lv_ldc2 (own := "java/lang/Long") hx hb hown (hts _ gw_1238) d_Lo_bitCount_18 ?_
  refine lv_land hx hb d_Lo_bitCount_21 ?_
  refine lv_ladd hx hb d_Lo_bitCount_22 ?_
  refine lv_topl (fun x_2 ex_2 => ?_)
  obtain rfl : x_2 = bc_2 (bc_1 x) := by rw [ex_2]; first | done | (rfl)
  refine lv_lstore_n (lv' := [(0, .long (bc_2 (bc_1 x)))]) hx hb d_Lo_bitCount_23 rfl hl (by decide) rfl (fun ls hl => ?_)
  refine lv_lload_n hx hb d_Lo_bitCount_24 rfl (lv_at hl 0 rfl) ?_
  refine lv_lload_n hx hb d_Lo_bitCount_25 rfl (lv_at hl 0 rfl) ?_
  refine lv_iconst (v := 4) hx hb d_Lo_bitCount_26 (by decide) ?_
  refine lv_lushr hx hb d_Lo_bitCount_27 rfl ?_
  refine lv_ladd hx hb d_Lo_bitCount_28 ?_
  refine lv_ldc2 (own := "java/lang/Long") hx hb hown (hts _ gw_1239) d_Lo_bitCount_29 ?_
  refine lv_land hx hb d_Lo_bitCount_32 ?_
  refine lv_topl (fun x_3 ex_3 => ?_)
  obtain rfl : x_3 = bc_3 (bc_2 (bc_1 x)) := by rw [ex_3]; first | done | (rfl)
  refine lv_lstore_n (lv' := [(0, .long (bc_3 (bc_2 (bc_1 x))))]) hx hb d_Lo_bitCount_33 rfl hl (by decide) rfl (fun ls hl => ?_)
  refine lv_lload_n hx hb d_Lo_bitCount_34 rfl (lv_at hl 0 rfl) ?_
  refine lv_lload_n hx hb d_Lo_bitCount_35 rfl (lv_at hl 0 rfl) ?_
  refine lv_bipush (v := 8) hx hb d_Lo_bitCount_36 (by decide) ?_
  refine lv_lushr hx hb d_Lo_bitCount_38 rfl ?_
  refine lv_ladd hx hb d_Lo_bitCount_39 ?_
  refine lv_topl (fun x_4 ex_4 => ?_)
  obtain rfl : x_4 = bc_4 (bc_3 (bc_2 (bc_1 x))) 8 := by rw [ex_4]; first | done | (rfl)
  refine lv_lstore_n (lv' := [(0, .long (bc_4 (bc_3 (bc_2 (bc_1 x))) 8))]) hx hb d_Lo_bitCount_40 rfl hl (by decide) rfl (fun ls hl => ?_)
  refine lv_lload_n hx hb d_Lo_bitCount_41 rfl (lv_at hl 0 rfl) ?_
  refine lv_lload_n hx hb d_Lo_bitCount_42 rfl (lv_at hl 0 rfl) ?_
  refine lv_bipush (v := 16) hx hb d_Lo_bitCount_43 (by decide) ?_
  refine lv_lushr hx hb d_Lo_bitCount_45 rfl ?_
  refine lv_ladd hx hb d_Lo_bitCount_46 ?_
  refine lv_topl (fun x_5 ex_5 => ?_)
  obtain rfl : x_5 = bc_4 (bc_4 (bc_3 (bc_2 (bc_1 x))) 8) 16 := by rw [ex_5]; first | done | (rfl)
  refine lv_lstore_n (lv' := [(0, .long (bc_4 (bc_4 (bc_3 (bc_2 (bc_1 x))) 8) 16))]) hx hb d_Lo_bitCount_47 rfl hl (by decide) rfl (fun ls hl => ?_)
  refine lv_lload_n hx hb d_Lo_bitCount_48 rfl (lv_at hl 0 rfl) ?_
  refine lv_lload_n hx hb d_Lo_bitCount_49 rfl (lv_at hl 0 rfl) ?_
  refine lv_bipush (v := 32) hx hb d_Lo_bitCount_50 (by decide) ?_
  refine lv_lushr hx hb d_Lo_bitCount_52 rfl ?_
  refine lv_ladd hx hb d_Lo_bitCount_53 ?_
  refine lv_topl (fun x_6 ex_6 => ?_)
  obtain rfl : x_6 = bc_4 (bc_4 (bc_4 (bc_3 (bc_2 (bc_1 x))) 8) 16) 32 := by rw [ex_6]; first | done | (rfl)
  refine lv_lstore_n (lv' := [(0, .long (bc_4 (bc_4 (bc_4 (bc_3 (bc_2 (bc_1 x))) 8) 16) 32))]) hx hb d_Lo_bitCount_54 rfl hl (by decide) rfl (fun ls hl => ?_)
  refine lv_lload_n hx hb d_Lo_bitCount_55 rfl (lv_at hl 0 rfl) ?_
  refine lv_l2i hx hb d_Lo_bitCount_56 rfl ?_
  refine lv_bipush (v := 127) hx hb d_Lo_bitCount_57 (by decide) ?_
  refine lv_iand hx hb d_Lo_bitCount_59 ?_
  refine lv_topi (fun x_7 ex_7 => ?_)
  obtain rfl : x_7 = bc x := by rw [ex_7]; first | done | (rfl)
  exact W.iret (v := bc x) hx hb hr (fun t ht hW => ⟨⟨_, (), rfl, rfl, by rw [ht]; exact hP, va_K.moved hW.alike hK, hD⟩, hS.F ht⟩) hS.2.2 d_Lo_bitCount_60
set_option maxHeartbeats 4000000 in
set_option maxRecDepth 100000 in
/-- takeAll of nothing -/
theorem m_Re_takeAll0 (l : Launch) (dC : Nat → ClassId) (dI : Nat → Nat → Nat) (cI cB cL cZ cR : ClassId) (h mb ar : Nat) (rr_digest rr_version rr_digestVersion : Value) (mw aw : Nat → Int64) (sz : Nat) (hmw : ∀ j, j < 8 → mw j = 0) (haw : ∀ j, j < 8 → aw j = 0) : Met l y_Re_takeAll ws_Re_takeAll ({ frames := 1, cells := 0, slots := 0, locals := 40 }) (xw_Pc dC dI [(cI, .int), (cB, .byte), (cL, .long), (cZ, .boolean), (cR, .object "PatchStore$Repository")] [.ref h, .ref ar, .int 0] [(h, .inr (7, [.ref mb, rr_digest, .int 0, rr_version, rr_digestVersion])), (mb, .inl (cL, 8, .inr (.inl mw))), (ar, .inl (cL, 8, .inr (.inl aw)))] sz) (va_Qi (fun (r : Int32) (_ : Nat → Int64) => r = 0) (fun u t => xw_B dC dI [(cI, .int), (cB, .byte), (cL, .long), (cZ, .boolean), (cR, .object "PatchStore$Repository")] (va_A [(h, .inr (7, [.ref mb, rr_digest, .int 0, rr_version, rr_digestVersion])), (mb, .inl (cL, 8, .inr (.inl mw))), (ar, .inl (cL, 8, .inr (.inl aw)))] sz) [(h, .inr (7, [.ref mb, rr_digest, .int 0, rr_version, rr_digestVersion])), (mb, .inl (cL, 8, .inr (.inl u))), (ar, .inl (cL, 8, .inr (.inl aw)))] t) (va_A [(h, .inr (7, [.ref mb, rr_digest, .int 0, rr_version, rr_digestVersion])), (mb, .inl (cL, 8, .inr (.inl mw))), (ar, .inl (cL, 8, .inr (.inl aw)))] sz)) 0 0 (va_A [(h, .inr (7, [.ref mb, rr_digest, .int 0, rr_version, rr_digestVersion])), (mb, .inl (cL, 8, .inr (.inl mw))), (ar, .inl (cL, 8, .inr (.inl aw)))] sz) := by
  refine Met.ofW (cc := prog_8_method_6_code) (maxL := 5) (ret := (Option.some Jvm.ClassFile.FieldType.int)) (by decide) rfl ?_
  intro p e s m args below meth c s₁ B hml hv
  obtain ⟨rfl, hsz, hP, hK, hD0⟩ := hv
  have hx := B.exec
  have hb := B.bytes
  have hr := B.returns
  have hts0 := atoms_spec (ws := ws_Re_takeAll) B.pre
  have hts : ∀ w ∈ xg_1, w.before _ s = true := fun w h => hts0 w (List.mem_cons_of_mem _ h)
  have hown : s.vm.findClass "PatchStore$Repository" = some m.cls := findClass_of_methodNamed B.named
  have hlocks := B.notSynchronized
  subst hsz
  have hD := hD0.self (sz := s.heap.size)
  generalize hAe : va_A [(h, .inr (7, [.ref mb, rr_digest, .int 0, rr_version, rr_digestVersion])), (mb, .inl (cL, 8, .inr (.inl mw))), (ar, .inl (cL, 8, .inr (.inl aw)))] s.heap.size = A at hD ⊢
  have hA : ∀ q : Nat, s.heap.size ≤ q → A q := fun q h => by rw [← hAe]; exact Or.inr h
  have hS : va_S A s.heap s.heap [] := va_S.rf
  have hl := lv_entry ([.ref h, .ref ar, .int 0]) (n := 5) (Nat.le_of_ble_eq_true rfl)
  rw [lg_entry_eq]
  generalize (lg_sl ([.ref h, .ref ar, .int 0]) ++ List.replicate (5 - (lg_sl ([.ref h, .ref ar, .int 0])).length) Slot.unset).toArray = ls at hl ⊢
  have hl : lv_has ls 5 [(0, .ref h), (1, .ref ar), (2, .int 0)] := hl
  generalize hQe : MQ _ _ _ _ _ _ _ = Q
  refine lv_aload_n hx hb d_Re_takeAll_0 rfl (lv_at hl 0 rfl) ?_
  refine va_get (D := (dC, dI)) (ci := 7) (v := .int 0) (C := R_Re) (T := F_Re) (N := 5) hx hb hts i_Re hown hK hP 0 rfl rfl 2 (by decide) (hts _ gw_531) (fun _ h9 => h9) rfl d_Re_takeAll_1 ?_
  refine lv_istore_n (lv' := [(3, .int 0), (0, .ref h), (1, .ref ar), (2, .int 0)]) hx hb d_Re_takeAll_4 rfl hl (by decide) rfl (fun ls hl => ?_)
  refine lv_iconst (v := 0) hx hb d_Re_takeAll_5 (by decide) ?_
  refine lv_istore (lv' := [(4, .int 0), (3, .int 0), (0, .ref h), (1, .ref ar), (2, .int 0)]) hx hb d_Re_takeAll_6 hl (by decide) rfl (fun ls hl => ?_)
  have loop_8 : ∀ (n : Nat) (k : Nat) (f : Nat → Int64) (H : Heap) (locs : List Loc) (ls : Array Slot), 8 - k < n → (k ≤ 8) → (∀ j, j < 8 → f j = 0) → va_P (dC, dI) classes [(h, .inr (7, [.ref mb, rr_digest, .int 0, rr_version, rr_digestVersion])), (mb, .inl (cL, 8, .inr (.inl f))), (ar, .inl (cL, 8, .inr (.inl aw)))] H → va_D A [(h, .inr (7, [.ref mb, rr_digest, .int 0, rr_version, rr_digestVersion])), (mb, .inl (cL, 8, .inr (.inl f))), (ar, .inl (cL, 8, .inr (.inl aw)))] → va_S A s.heap H locs → lv_has ls 5 [(0, .ref h), (1, .ref ar), (2, .int 0), (3, .int 0), (4, .int (nI k))] → W p l e (headSpec ws_Re_takeAll ({ frames := 1, cells := 0, slots := 0, locals := 40 })).room s m ([.ref h, .ref ar, .int 0] : List Value).toArray below meth c H locs 0 0 Q (F0 m 8 ls []) := by
    intro n
    induction n with
    | zero => intro k f H locs ls hm; exact absurd hm (Nat.not_lt_zero _)
    | succ n ih_8 =>
      intro k f H locs ls hm hk hf hP hD hS hl
      refine lv_iload hx hb d_Re_takeAll_8 (lv_at hl 4 rfl) ?_
      refine lv_bipush (v := 8) hx hb d_Re_takeAll_10 (by decide) ?_
      refine lv_icmp_ge (tgt := 67) hx hb d_Re_takeAll_12 (by decide) (fun c_12 => ?_) (fun c_12 => ?_)
      · have hk8 : k = 8 := by have := (nI_leI (a := 8) (b := k) (by omega) (by omega)).mp c_12; omega
        refine lv_aload_n hx hb d_Re_takeAll_67 rfl (lv_at hl 0 rfl) ?_
        refine va_get (D := (dC, dI)) (ci := 7) (v := .int 0) (C := R_Re) (T := F_Re) (N := 5) hx hb hts i_Re hown hK hP 0 rfl rfl 2 (by decide) (hts _ gw_531) (fun _ h9 => h9) rfl d_Re_takeAll_68 ?_
        refine lv_iload_n hx hb d_Re_takeAll_71 rfl (lv_at hl 3 rfl) ?_
        refine lv_icmp_eq (tgt := 85) hx hb d_Re_takeAll_72 (by decide) (fun _ => ?_) (fun c_72 => absurd (by decide) c_72)
        refine lv_aload_n hx hb d_Re_takeAll_85 rfl (lv_at hl 0 rfl) ?_
        refine va_get (D := (dC, dI)) (ci := 7) (v := .int 0) (C := R_Re) (T := F_Re) (N := 5) hx hb hts i_Re hown hK hP 0 rfl rfl 2 (by decide) (hts _ gw_531) (fun _ h9 => h9) rfl d_Re_takeAll_86 ?_
        refine lv_iload_n hx hb d_Re_takeAll_89 rfl (lv_at hl 3 rfl) ?_
        refine lv_isub hx hb d_Re_takeAll_90 ?_
        refine lv_topi (fun x_1 ex_1 => ?_)
        obtain rfl : x_1 = 0 := by rw [ex_1]; first | done | (rfl)
        rw [← hQe]
        exact W.iret (v := 0) hx hb hr (fun t ht hW => ⟨⟨_, f, rfl, rfl, by rw [ht]; exact hP, va_K.moved hW.alike hK, hD⟩, hS.F ht⟩) hS.2.2 d_Re_takeAll_91
      · have hk8 : k < 8 := by rcases Nat.lt_or_ge k 8 with z | z; exact z; exact absurd (nI_le (a := 8) z (by omega)) c_12
        refine lv_aload_n hx hb d_Re_takeAll_15 rfl (lv_at hl 0 rfl) ?_
        refine lv_dup hx hb d_Re_takeAll_16 rfl ?_
        refine va_get (D := (dC, dI)) (ci := 7) (v := .int 0) (C := R_Re) (T := F_Re) (N := 5) hx hb hts i_Re hown hK hP 0 rfl rfl 2 (by decide) (hts _ gw_531) (fun _ h9 => h9) rfl d_Re_takeAll_17 ?_
        refine lv_aload_n hx hb d_Re_takeAll_20 rfl (lv_at hl 1 rfl) ?_
        refine lv_iload_n hx hb d_Re_takeAll_21 rfl (lv_at hl 2 rfl) ?_
        refine lv_iload hx hb d_Re_takeAll_22 (lv_at hl 4 rfl) ?_
        refine lv_iadd hx hb d_Re_takeAll_24 ?_
        refine lv_topi (fun x_2 ex_2 => ?_)
        obtain rfl : x_2 = nI k := by rw [ex_2]; first | done | (exact Int32.zero_add _)
        refine va_lald hx hb hK hP 2 2 rfl rfl (vp_in_nI (by omega) (by omega)) d_Re_takeAll_25 ?_
        rw [show (nI k).toNatClampNeg = k from nI_clamp (by omega)]
        refine lv_aload_n hx hb d_Re_takeAll_26 rfl (lv_at hl 0 rfl) ?_
        refine va_get (D := (dC, dI)) (ci := 7) (v := .ref mb) (C := R_Re) (T := F_Re) (N := 5) hx hb hts i_Re hown hK hP 0 rfl rfl 0 (by decide) (hts _ gw_527) (fun _ h9 => h9) rfl d_Re_takeAll_27 ?_
        refine lv_iload hx hb d_Re_takeAll_30 (lv_at hl 4 rfl) ?_
        refine va_lald hx hb hK hP 1 2 rfl rfl (vp_in_nI (by omega) (by omega)) d_Re_takeAll_32 ?_
        rw [show (nI k).toNatClampNeg = k from nI_clamp (by omega)]
        refine lv_ldc2 (own := "PatchStore$Repository") hx hb hown (hts _ gw_866) d_Re_takeAll_33 ?_
        refine lv_lxor hx hb d_Re_takeAll_36 ?_
        refine lv_land hx hb d_Re_takeAll_37 ?_
        have hPc := hP.sub (ws' := []) [] rfl
        have hDc := hD.sub (ws' := []) [] (by decide) rfl
        have hFc := va_free (wc := []) hD hS hA [] rfl
        refine va_calli (va_runS (As := [.long ((aw k) &&& ((f k) ^^^ (-1)))]) (rest := [.int 0, .ref h]) ⟨hx, hb, hml, hown, hts⟩ (m_Lg_bitCount l dC dI cI cB cL cZ cR ((aw k) &&& ((f k) ^^^ (-1))) H.size ) ⟨callB_of 1 hts (xg_in gw_1236) rfl rfl rfl (hts _ gw_36) (hts _ gw_1234) (by decide +kernel) ⟨Nat.le_of_ble_eq_true rfl, Nat.le_of_ble_eq_true rfl⟩, hts _ gw_1235⟩ ⟨xw_blind, fun U hU hW => ⟨rfl, by rw [hU], by rw [hU]; exact hPc, va_K.moved hW.alike hK, hDc.weaken (fun _ _ _ _ => trivial)⟩⟩ rfl rfl hl.1 rfl (lv_room (Nat.le_of_ble_eq_true rfl)) d_Re_takeAll_38 ⟨Nat.le_of_ble_eq_true rfl, Nat.le_of_ble_eq_true rfl⟩) hS (fun q _ h => hFc q h) hFc (fun r9 u t H1 locs ht hvm hw hB hz1 hk1 hS => ?_)
        obtain ⟨hP1, hK1, hD1⟩ := hB
        rw [ht] at hP1
        obtain ⟨hP, hD⟩ := va_join (wr := [(h, .inr (7, [.ref mb, rr_digest, .int 0, rr_version, rr_digestVersion])), (mb, .inl (cL, 8, .inr (.inl f))), (ar, .inl (cL, 8, .inr (.inl aw)))]) (w1 := []) hP hD [] [0, 1, 2] rfl rfl (by decide) (by decide) hk1 hFc hP1 hD1
        generalize H1 = H at hP hS ⊢
        have hP : va_P (dC, dI) classes [(h, .inr (7, [.ref mb, rr_digest, .int 0, rr_version, rr_digestVersion])), (mb, .inl (cL, 8, .inr (.inl f))), (ar, .inl (cL, 8, .inr (.inl aw)))] H := hP
        have hD : va_D A [(h, .inr (7, [.ref mb, rr_digest, .int 0, rr_version, rr_digestVersion])), (mb, .inl (cL, 8, .inr (.inl f))), (ar, .inl (cL, 8, .inr (.inl aw)))] := hD
        subst hw
        refine lv_iadd hx hb d_Re_takeAll_41 ?_
        refine lv_topi (fun x_3 ex_3 => ?_)
        obtain rfl : x_3 = 0 := by rw [ex_3]; first | done | (rw [haw k hk8, Int64.zero_and, bc_0]; rfl)
        refine va_put (D := (dC, dI)) (ci := 7) (v := .int 0) (ty := .int) (C := R_Re) (T := F_Re) (N := 5) hx hb hts i_Re t_Re t_Re_ok n_Re hown hK hP hD hS 0 rfl rfl 2 (by decide) (hts _ gw_531) (fun _ h9 => h9) rfl (by decide +kernel) rfl rfl (Nat.le_of_ble_eq_true rfl) d_Re_takeAll_42 (fun H locs hP hD hS => ?_)
        have hP : va_P (dC, dI) classes [(h, .inr (7, [.ref mb, rr_digest, .int 0, rr_version, rr_digestVersion])), (mb, .inl (cL, 8, .inr (.inl f))), (ar, .inl (cL, 8, .inr (.inl aw)))] H := hP
        have hD : va_D A [(h, .inr (7, [.ref mb, rr_digest, .int 0, rr_version, rr_digestVersion])), (mb, .inl (cL, 8, .inr (.inl f))), (ar, .inl (cL, 8, .inr (.inl aw)))] := hD
        refine lv_aload_n hx hb d_Re_takeAll_45 rfl (lv_at hl 0 rfl) ?_
        refine va_get (D := (dC, dI)) (ci := 7) (v := .ref mb) (C := R_Re) (T := F_Re) (N := 5) hx hb hts i_Re hown hK hP 0 rfl rfl 0 (by decide) (hts _ gw_527) (fun _ h9 => h9) rfl d_Re_takeAll_46 ?_
        refine lv_iload hx hb d_Re_takeAll_49 (lv_at hl 4 rfl) ?_
        refine lv_dup2_11 hx hb d_Re_takeAll_51 rfl rfl ?_
        refine va_lald hx hb hK hP 1 2 rfl rfl (vp_in_nI (by omega) (by omega)) d_Re_takeAll_52 ?_
        rw [show (nI k).toNatClampNeg = k from nI_clamp (by omega)]
        refine lv_aload_n hx hb d_Re_takeAll_53 rfl (lv_at hl 1 rfl) ?_
        refine lv_iload_n hx hb d_Re_takeAll_54 rfl (lv_at hl 2 rfl) ?_
        refine lv_iload hx hb d_Re_takeAll_55 (lv_at hl 4 rfl) ?_
        refine lv_iadd hx hb d_Re_takeAll_57 ?_
        refine lv_topi (fun x_4 ex_4 => ?_)
        obtain rfl : x_4 = nI k := by rw [ex_4]; first | done | (exact Int32.zero_add _)
        refine va_lald hx hb hK hP 2 2 rfl rfl (vp_in_nI (by omega) (by omega)) d_Re_takeAll_58 ?_
        rw [show (nI k).toNatClampNeg = k from nI_clamp (by omega)]
        refine lv_lor hx hb d_Re_takeAll_59 ?_
        refine va_last hx hb hK hP hD hS 1 2 rfl rfl (vp_in_nI (by omega) (by omega)) d_Re_takeAll_60 (fun H locs hP hD hS => ?_)
        rw [show (nI k).toNatClampNeg = k from nI_clamp (by omega)] at hP hD
        have hP : va_P (dC, dI) classes [(h, .inr (7, [.ref mb, rr_digest, .int 0, rr_version, rr_digestVersion])), (mb, .inl (cL, 8, .inr (.inl (vp_updL f k ((f k) ||| (aw k)))))), (ar, .inl (cL, 8, .inr (.inl aw)))] H := hP
        have hD : va_D A [(h, .inr (7, [.ref mb, rr_digest, .int 0, rr_version, rr_digestVersion])), (mb, .inl (cL, 8, .inr (.inl (vp_updL f k ((f k) ||| (aw k)))))), (ar, .inl (cL, 8, .inr (.inl aw)))] := hD
        refine lv_iinc (v := nI (k + 1)) (lv' := [(4, .int (nI (k + 1))), (0, .ref h), (1, .ref ar), (2, .int 0), (3, .int 0)]) hx hb d_Re_takeAll_61 hl (k := 4) rfl (by exact nI_1 k) (by decide) rfl (fun ls hl => ?_)
        refine lv_goto (tgt := 8) hx hb d_Re_takeAll_64 (by decide) ?_
        exact ih_8 (k + 1) (vp_updL f k ((f k) ||| (aw k))) _ _ _ (by omega) (by omega) (ta_z k hf (by rw [hf k hk8, haw k hk8]; decide)) hP hD hS (lv_sub hl [1, 2, 3, 4, 0] rfl)
  exact loop_8 _ 0 mw _ _ _ (Nat.lt_succ_self _) (Nat.zero_le _) (hmw) hP hD hS (lv_sub hl [2, 3, 4, 1, 0] rfl)
set_option maxHeartbeats 4000000 in
set_option maxRecDepth 100000 in
/-- takeAll of nothing -/
theorem m_Re_takeAll0s (l : Launch) (dC : Nat → ClassId) (dI : Nat → Nat → Nat) (cI cB cL cZ cR : ClassId) (h mb : Nat) (rr_digest rr_version rr_digestVersion : Value) (mw : Nat → Int64) (sz : Nat) (hmw : ∀ j, j < 8 → mw j = 0) : Met l y_Re_takeAll ws_Re_takeAll ({ frames := 1, cells := 0, slots := 0, locals := 40 }) (xw_Pc dC dI [(cI, .int), (cB, .byte), (cL, .long), (cZ, .boolean), (cR, .object "PatchStore$Repository")] [.ref h, .ref mb, .int 0] [(h, .inr (7, [.ref mb, rr_digest, .int 0, rr_version, rr_digestVersion])), (mb, .inl (cL, 8, .inr (.inl mw)))] sz) (va_Qi (fun (r : Int32) (_ : Nat → Int64) => r = 0) (fun u t => xw_B dC dI [(cI, .int), (cB, .byte), (cL, .long), (cZ, .boolean), (cR, .object "PatchStore$Repository")] (va_A [(h, .inr (7, [.ref mb, rr_digest, .int 0, rr_version, rr_digestVersion])), (mb, .inl (cL, 8, .inr (.inl mw)))] sz) [(h, .inr (7, [.ref mb, rr_digest, .int 0, rr_version, rr_digestVersion])), (mb, .inl (cL, 8, .inr (.inl u)))] t) (va_A [(h, .inr (7, [.ref mb, rr_digest, .int 0, rr_version, rr_digestVersion])), (mb, .inl (cL, 8, .inr (.inl mw)))] sz)) 0 0 (va_A [(h, .inr (7, [.ref mb, rr_digest, .int 0, rr_version, rr_digestVersion])), (mb, .inl (cL, 8, .inr (.inl mw)))] sz) := by
  refine Met.ofW (cc := prog_8_method_6_code) (maxL := 5) (ret := (Option.some Jvm.ClassFile.FieldType.int)) (by decide) rfl ?_
  intro p e s m args below meth c s₁ B hml hv
  obtain ⟨rfl, hsz, hP, hK, hD0⟩ := hv
  have hx := B.exec
  have hb := B.bytes
  have hr := B.returns
  have hts0 := atoms_spec (ws := ws_Re_takeAll) B.pre
  have hts : ∀ w ∈ xg_1, w.before _ s = true := fun w h => hts0 w (List.mem_cons_of_mem _ h)
  have hown : s.vm.findClass "PatchStore$Repository" = some m.cls := findClass_of_methodNamed B.named
  have hlocks := B.notSynchronized
  subst hsz
  have hD := hD0.self (sz := s.heap.size)
  generalize hAe : va_A [(h, .inr (7, [.ref mb, rr_digest, .int 0, rr_version, rr_digestVersion])), (mb, .inl (cL, 8, .inr (.inl mw)))] s.heap.size = A at hD ⊢
  have hA : ∀ q : Nat, s.heap.size ≤ q → A q := fun q h => by rw [← hAe]; exact Or.inr h
  have hS : va_S A s.heap s.heap [] := va_S.rf
  have hl := lv_entry ([.ref h, .ref mb, .int 0]) (n := 5) (Nat.le_of_ble_eq_true rfl)
  rw [lg_entry_eq]
  generalize (lg_sl ([.ref h, .ref mb, .int 0]) ++ List.replicate (5 - (lg_sl ([.ref h, .ref mb, .int 0])).length) Slot.unset).toArray = ls at hl ⊢
  have hl : lv_has ls 5 [(0, .ref h), (1, .ref mb), (2, .int 0)] := hl
  generalize hQe : MQ _ _ _ _ _ _ _ = Q
  refine lv_aload_n hx hb d_Re_takeAll_0 rfl (lv_at hl 0 rfl) ?_
  refine va_get (D := (dC, dI)) (ci := 7) (v := .int 0) (C := R_Re) (T := F_Re) (N := 5) hx hb hts i_Re hown hK hP 0 rfl rfl 2 (by decide) (hts _ gw_531) (fun _ h9 => h9) rfl d_Re_takeAll_1 ?_
  refine lv_istore_n (lv' := [(3, .int 0), (0, .ref h), (1, .ref mb), (2, .int 0)]) hx hb d_Re_takeAll_4 rfl hl (by decide) rfl (fun ls hl => ?_)
  refine lv_iconst (v := 0) hx hb d_Re_takeAll_5 (by decide) ?_
  refine lv_istore (lv' := [(4, .int 0), (3, .int 0), (0, .ref h), (1, .ref mb), (2, .int 0)]) hx hb d_Re_takeAll_6 hl (by decide) rfl (fun ls hl => ?_)
  have loop_8 : ∀ (n : Nat) (k : Nat) (f : Nat → Int64) (H : Heap) (locs : List Loc) (ls : Array Slot), 8 - k < n → (k ≤ 8) → (∀ j, j < 8 → f j = 0) → va_P (dC, dI) classes [(h, .inr (7, [.ref mb, rr_digest, .int 0, rr_version, rr_digestVersion])), (mb, .inl (cL, 8, .inr (.inl f)))] H → va_D A [(h, .inr (7, [.ref mb, rr_digest, .int 0, rr_version, rr_digestVersion])), (mb, .inl (cL, 8, .inr (.inl f)))] → va_S A s.heap H locs → lv_has ls 5 [(0, .ref h), (1, .ref mb), (2, .int 0), (3, .int 0), (4, .int (nI k))] → W p l e (headSpec ws_Re_takeAll ({ frames := 1, cells := 0, slots := 0, locals := 40 })).room s m ([.ref h, .ref mb, .int 0] : List Value).toArray below meth c H locs 0 0 Q (F0 m 8 ls []) := by
    intro n
    induction n with
    | zero => intro k f H locs ls hm; exact absurd hm (Nat.not_lt_zero _)
    | succ n ih_8 =>
      intro k f H locs ls hm hk hf hP hD hS hl
      refine lv_iload hx hb d_Re_takeAll_8 (lv_at hl 4 rfl) ?_
      refine lv_bipush (v := 8) hx hb d_Re_takeAll_10 (by decide) ?_
      refine lv_icmp_ge (tgt := 67) hx hb d_Re_takeAll_12 (by decide) (fun c_12 => ?_) (fun c_12 => ?_)
      · have hk8 : k = 8 := by have := (nI_leI (a := 8) (b := k) (by omega) (by omega)).mp c_12; omega
        refine lv_aload_n hx hb d_Re_takeAll_67 rfl (lv_at hl 0 rfl) ?_
        refine va_get (D := (dC, dI)) (ci := 7) (v := .int 0) (C := R_Re) (T := F_Re) (N := 5) hx hb hts i_Re hown hK hP 0 rfl rfl 2 (by decide) (hts _ gw_531) (fun _ h9 => h9) rfl d_Re_takeAll_68 ?_
        refine lv_iload_n hx hb d_Re_takeAll_71 rfl (lv_at hl 3 rfl) ?_
        refine lv_icmp_eq (tgt := 85) hx hb d_Re_takeAll_72 (by decide) (fun _ => ?_) (fun c_72 => absurd (by decide) c_72)
        refine lv_aload_n hx hb d_Re_takeAll_85 rfl (lv_at hl 0 rfl) ?_
        refine va_get (D := (dC, dI)) (ci := 7) (v := .int 0) (C := R_Re) (T := F_Re) (N := 5) hx hb hts i_Re hown hK hP 0 rfl rfl 2 (by decide) (hts _ gw_531) (fun _ h9 => h9) rfl d_Re_takeAll_86 ?_
        refine lv_iload_n hx hb d_Re_takeAll_89 rfl (lv_at hl 3 rfl) ?_
        refine lv_isub hx hb d_Re_takeAll_90 ?_
        refine lv_topi (fun x_1 ex_1 => ?_)
        obtain rfl : x_1 = 0 := by rw [ex_1]; first | done | (rfl)
        rw [← hQe]
        exact W.iret (v := 0) hx hb hr (fun t ht hW => ⟨⟨_, f, rfl, rfl, by rw [ht]; exact hP, va_K.moved hW.alike hK, hD⟩, hS.F ht⟩) hS.2.2 d_Re_takeAll_91
      · have hk8 : k < 8 := by rcases Nat.lt_or_ge k 8 with z | z; exact z; exact absurd (nI_le (a := 8) z (by omega)) c_12
        refine lv_aload_n hx hb d_Re_takeAll_15 rfl (lv_at hl 0 rfl) ?_
        refine lv_dup hx hb d_Re_takeAll_16 rfl ?_
        refine va_get (D := (dC, dI)) (ci := 7) (v := .int 0) (C := R_Re) (T := F_Re) (N := 5) hx hb hts i_Re hown hK hP 0 rfl rfl 2 (by decide) (hts _ gw_531) (fun _ h9 => h9) rfl d_Re_takeAll_17 ?_
        refine lv_aload_n hx hb d_Re_takeAll_20 rfl (lv_at hl 1 rfl) ?_
        refine lv_iload_n hx hb d_Re_takeAll_21 rfl (lv_at hl 2 rfl) ?_
        refine lv_iload hx hb d_Re_takeAll_22 (lv_at hl 4 rfl) ?_
        refine lv_iadd hx hb d_Re_takeAll_24 ?_
        refine lv_topi (fun x_2 ex_2 => ?_)
        obtain rfl : x_2 = nI k := by rw [ex_2]; first | done | (exact Int32.zero_add _)
        refine va_lald hx hb hK hP 1 2 rfl rfl (vp_in_nI (by omega) (by omega)) d_Re_takeAll_25 ?_
        rw [show (nI k).toNatClampNeg = k from nI_clamp (by omega)]
        refine lv_aload_n hx hb d_Re_takeAll_26 rfl (lv_at hl 0 rfl) ?_
        refine va_get (D := (dC, dI)) (ci := 7) (v := .ref mb) (C := R_Re) (T := F_Re) (N := 5) hx hb hts i_Re hown hK hP 0 rfl rfl 0 (by decide) (hts _ gw_527) (fun _ h9 => h9) rfl d_Re_takeAll_27 ?_
        refine lv_iload hx hb d_Re_takeAll_30 (lv_at hl 4 rfl) ?_
        refine va_lald hx hb hK hP 1 2 rfl rfl (vp_in_nI (by omega) (by omega)) d_Re_takeAll_32 ?_
        rw [show (nI k).toNatClampNeg = k from nI_clamp (by omega)]
        refine lv_ldc2 (own := "PatchStore$Repository") hx hb hown (hts _ gw_866) d_Re_takeAll_33 ?_
        refine lv_lxor hx hb d_Re_takeAll_36 ?_
        refine lv_land hx hb d_Re_takeAll_37 ?_
        have hPc := hP.sub (ws' := []) [] rfl
        have hDc := hD.sub (ws' := []) [] (by decide) rfl
        have hFc := va_free (wc := []) hD hS hA [] rfl
        refine va_calli (va_runS (As := [.long ((f k) &&& ((f k) ^^^ (-1)))]) (rest := [.int 0, .ref h]) ⟨hx, hb, hml, hown, hts⟩ (m_Lg_bitCount l dC dI cI cB cL cZ cR ((f k) &&& ((f k) ^^^ (-1))) H.size ) ⟨callB_of 1 hts (xg_in gw_1236) rfl rfl rfl (hts _ gw_36) (hts _ gw_1234) (by decide +kernel) ⟨Nat.le_of_ble_eq_true rfl, Nat.le_of_ble_eq_true rfl⟩, hts _ gw_1235⟩ ⟨xw_blind, fun U hU hW => ⟨rfl, by rw [hU], by rw [hU]; exact hPc, va_K.moved hW.alike hK, hDc.weaken (fun _ _ _ _ => trivial)⟩⟩ rfl rfl hl.1 rfl (lv_room (Nat.le_of_ble_eq_true rfl)) d_Re_takeAll_38 ⟨Nat.le_of_ble_eq_true rfl, Nat.le_of_ble_eq_true rfl⟩) hS (fun q _ h => hFc q h) hFc (fun r9 u t H1 locs ht hvm hw hB hz1 hk1 hS => ?_)
        obtain ⟨hP1, hK1, hD1⟩ := hB
        rw [ht] at hP1
        obtain ⟨hP, hD⟩ := va_join (wr := [(h, .inr (7, [.ref mb, rr_digest, .int 0, rr_version, rr_digestVersion])), (mb, .inl (cL, 8, .inr (.inl f)))]) (w1 := []) hP hD [] [0, 1] rfl rfl (by decide) (by decide) hk1 hFc hP1 hD1
        generalize H1 = H at hP hS ⊢
        have hP : va_P (dC, dI) classes [(h, .inr (7, [.ref mb, rr_digest, .int 0, rr_version, rr_digestVersion])), (mb, .inl (cL, 8, .inr (.inl f)))] H := hP
        have hD : va_D A [(h, .inr (7, [.ref mb, rr_digest, .int 0, rr_version, rr_digestVersion])), (mb, .inl (cL, 8, .inr (.inl f)))] := hD
        subst hw
        refine lv_iadd hx hb d_Re_takeAll_41 ?_
        refine lv_topi (fun x_3 ex_3 => ?_)
        obtain rfl : x_3 = 0 := by rw [ex_3]; first | done | (rw [hf k hk8, Int64.zero_and, bc_0]; rfl)
        refine va_put (D := (dC, dI)) (ci := 7) (v := .int 0) (ty := .int) (C := R_Re) (T := F_Re) (N := 5) hx hb hts i_Re t_Re t_Re_ok n_Re hown hK hP hD hS 0 rfl rfl 2 (by decide) (hts _ gw_531) (fun _ h9 => h9) rfl (by decide +kernel) rfl rfl (Nat.le_of_ble_eq_true rfl) d_Re_takeAll_42 (fun H locs hP hD hS => ?_)
        have hP : va_P (dC, dI) classes [(h, .inr (7, [.ref mb, rr_digest, .int 0, rr_version, rr_digestVersion])), (mb, .inl (cL, 8, .inr (.inl f)))] H := hP
        have hD : va_D A [(h, .inr (7, [.ref mb, rr_digest, .int 0, rr_version, rr_digestVersion])), (mb, .inl (cL, 8, .inr (.inl f)))] := hD
        refine lv_aload_n hx hb d_Re_takeAll_45 rfl (lv_at hl 0 rfl) ?_
        refine va_get (D := (dC, dI)) (ci := 7) (v := .ref mb) (C := R_Re) (T := F_Re) (N := 5) hx hb hts i_Re hown hK hP 0 rfl rfl 0 (by decide) (hts _ gw_527) (fun _ h9 => h9) rfl d_Re_takeAll_46 ?_
        refine lv_iload hx hb d_Re_takeAll_49 (lv_at hl 4 rfl) ?_
        refine lv_dup2_11 hx hb d_Re_takeAll_51 rfl rfl ?_
        refine va_lald hx hb hK hP 1 2 rfl rfl (vp_in_nI (by omega) (by omega)) d_Re_takeAll_52 ?_
        rw [show (nI k).toNatClampNeg = k from nI_clamp (by omega)]
        refine lv_aload_n hx hb d_Re_takeAll_53 rfl (lv_at hl 1 rfl) ?_
        refine lv_iload_n hx hb d_Re_takeAll_54 rfl (lv_at hl 2 rfl) ?_
        refine lv_iload hx hb d_Re_takeAll_55 (lv_at hl 4 rfl) ?_
        refine lv_iadd hx hb d_Re_takeAll_57 ?_
        refine lv_topi (fun x_4 ex_4 => ?_)
        obtain rfl : x_4 = nI k := by rw [ex_4]; first | done | (exact Int32.zero_add _)
        refine va_lald hx hb hK hP 1 2 rfl rfl (vp_in_nI (by omega) (by omega)) d_Re_takeAll_58 ?_
        rw [show (nI k).toNatClampNeg = k from nI_clamp (by omega)]
        refine lv_lor hx hb d_Re_takeAll_59 ?_
        refine va_last hx hb hK hP hD hS 1 2 rfl rfl (vp_in_nI (by omega) (by omega)) d_Re_takeAll_60 (fun H locs hP hD hS => ?_)
        rw [show (nI k).toNatClampNeg = k from nI_clamp (by omega)] at hP hD
        have hP : va_P (dC, dI) classes [(h, .inr (7, [.ref mb, rr_digest, .int 0, rr_version, rr_digestVersion])), (mb, .inl (cL, 8, .inr (.inl (vp_updL f k ((f k) ||| (f k))))))] H := hP
        have hD : va_D A [(h, .inr (7, [.ref mb, rr_digest, .int 0, rr_version, rr_digestVersion])), (mb, .inl (cL, 8, .inr (.inl (vp_updL f k ((f k) ||| (f k))))))] := hD
        refine lv_iinc (v := nI (k + 1)) (lv' := [(4, .int (nI (k + 1))), (0, .ref h), (1, .ref mb), (2, .int 0), (3, .int 0)]) hx hb d_Re_takeAll_61 hl (k := 4) rfl (by exact nI_1 k) (by decide) rfl (fun ls hl => ?_)
        refine lv_goto (tgt := 8) hx hb d_Re_takeAll_64 (by decide) ?_
        exact ih_8 (k + 1) (vp_updL f k ((f k) ||| (f k))) _ _ _ (by omega) (by omega) (ta_z k hf (by rw [hf k hk8]; decide)) hP hD hS (lv_sub hl [1, 2, 3, 4, 0] rfl)
  exact loop_8 _ 0 mw _ _ _ (Nat.lt_succ_self _) (Nat.zero_le _) (hmw) hP hD hS (lv_sub hl [2, 3, 4, 1, 0] rfl)
set_option maxHeartbeats 4000000 in
set_option maxRecDepth 100000 in
/-- pull on a fresh object -/
theorem m_PS_pull0 (l : Launch) (dC : Nat → ClassId) (dI : Nat → Nat → Nat) (cI cB cL cZ cR : ClassId) (hlt : xl_T l) (h rp rr mb r2 m2 : Nat) (ps_tape ps_sha ps_stock ps_intake ps_view ps_text ps_maker ps_recording ps_tapeLength ps_lastFault rr_digest rr_version rr_digestVersion r2_digest r2_size r2_version r2_digestVersion : Value) (mw aw : Nat → Int64) (g : Nat → Nat) (rf : Nat → Option Nat) (p0 p1 p2 : Int32) (sz : Nat) (hrf : ∀ k, k < 8 → rf k = some (g k)) (hrr_rr : ∀ n, n < 8 → p0 = nI n → g n = rr) (hrr_r2 : ∀ n, n < 8 → p1 = nI n → g n = r2) (hz : ∀ j, j < 8 → mw j = 0) (hz2 : ∀ j, j < 8 → aw j = 0) : xc_Met l y_PS_pull ws_PS_pull ({ frames := 14, cells := 3, slots := 18, locals := 400 }) (xw_Px dC dI [(cI, .int), (cB, .byte), (cL, .long), (cZ, .boolean), (cR, .object "PatchStore$Repository")] [.ref h, .int p0, .int p1, .int p2] [(h, .inr (0, [ps_tape, .ref rp, ps_sha, ps_stock, ps_intake, ps_view, ps_text, ps_maker, ps_recording, ps_tapeLength, ps_lastFault])), (rp, .inl (cR, 8, .inr (.inr (.inr (.inr rf))))), (rr, .inr (7, [.ref mb, rr_digest, .int 0, rr_version, rr_digestVersion])), (mb, .inl (cL, 8, .inr (.inl mw))), (r2, .inr (7, [.ref m2, r2_digest, r2_size, r2_version, r2_digestVersion])), (m2, .inl (cL, 8, .inr (.inl aw)))] sz) (xc_Q (S := Unit) (fun v (_ : Unit) => (∃ n : Nat, n < 8 ∧ p0 = nI n) ∧ (∃ n : Nat, n < 8 ∧ p1 = nI n) ∧ p2 < 0 ∧ v = some (.int 0)) (fun C (_ : Unit) => C = "java/util/NoSuchElementException" ∧ ((¬ ∃ n : Nat, n < 8 ∧ p0 = nI n) ∨ (¬ ∃ n : Nat, n < 8 ∧ p1 = nI n) ∨ ¬ p2 < 0)) (fun _ _ => True) (va_A [(h, .inr (0, [ps_tape, .ref rp, ps_sha, ps_stock, ps_intake, ps_view, ps_text, ps_maker, ps_recording, ps_tapeLength, ps_lastFault])), (rp, .inl (cR, 8, .inr (.inr (.inr (.inr rf))))), (rr, .inr (7, [.ref mb, rr_digest, .int 0, rr_version, rr_digestVersion])), (mb, .inl (cL, 8, .inr (.inl mw))), (r2, .inr (7, [.ref m2, r2_digest, r2_size, r2_version, r2_digestVersion])), (m2, .inl (cL, 8, .inr (.inl aw)))] sz)) 3 18 (va_A [(h, .inr (0, [ps_tape, .ref rp, ps_sha, ps_stock, ps_intake, ps_view, ps_text, ps_maker, ps_recording, ps_tapeLength, ps_lastFault])), (rp, .inl (cR, 8, .inr (.inr (.inr (.inr rf))))), (rr, .inr (7, [.ref mb, rr_digest, .int 0, rr_version, rr_digestVersion])), (mb, .inl (cL, 8, .inr (.inl mw))), (r2, .inr (7, [.ref m2, r2_digest, r2_size, r2_version, r2_digestVersion])), (m2, .inl (cL, 8, .inr (.inl aw)))] sz) := by
  refine xc_ofW (cc := prog_1_method_10_code) (maxL := 6) (ret := (Option.some Jvm.ClassFile.FieldType.int)) (by decide) rfl ?_
  intro p e s m args below meth c s₁ B hml hno hv
  obtain ⟨rfl, hsz, hP, hK, hD0, hN, hTh⟩ := hv
  have htr : e.platform.stackTraces = false := hlt e B.admits
  have hx := B.exec
  have hb := B.bytes
  have hr := B.returns
  have hts0 := atoms_spec (ws := ws_PS_pull) B.pre
  have hts : ∀ w ∈ xg_1, w.before _ s = true := fun w h => hts0 w (List.mem_cons_of_mem _ h)
  have hown : s.vm.findClass "PatchStore" = some m.cls := findClass_of_methodNamed B.named
  have hlocks := B.notSynchronized
  subst hsz
  have hD := hD0.self (sz := s.heap.size)
  generalize hAe : va_A [(h, .inr (0, [ps_tape, .ref rp, ps_sha, ps_stock, ps_intake, ps_view, ps_text, ps_maker, ps_recording, ps_tapeLength, ps_lastFault])), (rp, .inl (cR, 8, .inr (.inr (.inr (.inr rf))))), (rr, .inr (7, [.ref mb, rr_digest, .int 0, rr_version, rr_digestVersion])), (mb, .inl (cL, 8, .inr (.inl mw))), (r2, .inr (7, [.ref m2, r2_digest, r2_size, r2_version, r2_digestVersion])), (m2, .inl (cL, 8, .inr (.inl aw)))] s.heap.size = A at hD hTh ⊢
  have hA : ∀ q : Nat, s.heap.size ≤ q → A q := fun q h => by rw [← hAe]; exact Or.inr h
  have hS : va_S A s.heap s.heap [] := va_S.rf
  have hl := lv_entry ([.ref h, .int p0, .int p1, .int p2]) (n := 6) (Nat.le_of_ble_eq_true rfl)
  rw [lg_entry_eq]
  generalize (lg_sl ([.ref h, .int p0, .int p1, .int p2]) ++ List.replicate (6 - (lg_sl ([.ref h, .int p0, .int p1, .int p2])).length) Slot.unset).toArray = ls at hl ⊢
  have hl : lv_has ls 6 [(0, .ref h), (1, .int p0), (2, .int p1), (3, .int p2)] := hl
  refine lv_aload_n hx hb d_PS_pull_0 rfl (lv_at hl 0 rfl) ?_
  refine lv_iload_n hx hb d_PS_pull_1 rfl (lv_at hl 1 rfl) ?_
  have hPc := hP.sub (ws' := [(h, .inr (0, [ps_tape, .ref rp, ps_sha, ps_stock, ps_intake, ps_view, ps_text, ps_maker, ps_recording, ps_tapeLength, ps_lastFault])), (rp, .inl (cR, 8, .inr (.inr (.inr (.inr rf)))))]) [0, 1] rfl
  have hDc := hD.sub (ws' := [(h, .inr (0, [ps_tape, .ref rp, ps_sha, ps_stock, ps_intake, ps_view, ps_text, ps_maker, ps_recording, ps_tapeLength, ps_lastFault])), (rp, .inl (cR, 8, .inr (.inr (.inr (.inr rf)))))]) [0, 1] (by decide) rfl
  have hFc := va_free (wc := [(h, .inr (0, [ps_tape, .ref rp, ps_sha, ps_stock, ps_intake, ps_view, ps_text, ps_maker, ps_recording, ps_tapeLength, ps_lastFault])), (rp, .inl (cR, 8, .inr (.inr (.inr (.inr rf)))))]) hD hS hA [0, 1] rfl
  refine xc_call (xc_runV (As := [.int p0]) (rest := []) (C := "PatchStore") ⟨hx, hb, hml, hown, hts⟩ (m_PS_repositoryAt l dC dI cI cB cL cZ cR hlt h rp (ps_tape) (ps_sha) (ps_stock) (ps_intake) (ps_view) (ps_text) (ps_maker) (ps_recording) (ps_tapeLength) (ps_lastFault) g rf p0 s.heap.size hrf) (xc_bOf 1 hts (xg_in gw_703) (xc_Is.code (hts _ gw_703)) rfl rfl (hts _ gw_1) (by decide +kernel) ⟨Nat.le_of_ble_eq_true rfl, Nat.le_of_ble_eq_true rfl⟩) (hts _ gw_700) (hts _ gw_702) (hts _ (xg_p 2 (q := (⟨"PatchStore", "repositoryAt", "(I)LPatchStore$Repository;"⟩, 11)) (by decide +kernel))) ⟨xw_blindx, va_recv hK hPc (ci := 0) (q0 := 0) rfl rfl, fun U hU hW => ⟨rfl, by rw [hU], by rw [hU]; exact hPc, va_K.moved hW.alike hK, hDc.weaken (fun _ _ _ _ => trivial), xg_N.warm hW hN, by rw [hU]; exact ((hTh.kept (fun a h1 h2 => hS.2.1 a h1 h2)).narrow hFc).moved hW.alike⟩⟩ rfl rfl hl.1 rfl (lv_room (Nat.le_of_ble_eq_true rfl)) d_PS_pull_2 ⟨Nat.le_of_ble_eq_true rfl, Nat.le_of_ble_eq_true rfl⟩) hS (fun q _ h => hFc q h) hFc (fun v9 u t H1 locs ht hvm hw hB hz1 hk1 hS => ?_) (fun x9 C9 u t H1 locs ht hvm hw hex hB hz1 hk1 hS => ?_)
  · obtain ⟨n0, hn0, en0, rfl⟩ := hw
    rw [hrr_rr n0 hn0 en0]
    obtain ⟨hP1, hK1, hD1⟩ := hB
    rw [ht] at hP1
    obtain ⟨hP, hD⟩ := va_join (wr := [(rr, .inr (7, [.ref mb, rr_digest, .int 0, rr_version, rr_digestVersion])), (mb, .inl (cL, 8, .inr (.inl mw))), (r2, .inr (7, [.ref m2, r2_digest, r2_size, r2_version, r2_digestVersion])), (m2, .inl (cL, 8, .inr (.inl aw)))]) (w1 := [(h, .inr (0, [ps_tape, .ref rp, ps_sha, ps_stock, ps_intake, ps_view, ps_text, ps_maker, ps_recording, ps_tapeLength, ps_lastFault])), (rp, .inl (cR, 8, .inr (.inr (.inr (.inr rf)))))]) hP hD [0, 1] [2, 3, 4, 5] rfl rfl (by decide) (by decide) hk1 hFc hP1 hD1
    generalize H1 = H at hP hS ht ⊢
    have hP : va_P (dC, dI) classes [(rr, .inr (7, [.ref mb, rr_digest, .int 0, rr_version, rr_digestVersion])), (mb, .inl (cL, 8, .inr (.inl mw))), (r2, .inr (7, [.ref m2, r2_digest, r2_size, r2_version, r2_digestVersion])), (m2, .inl (cL, 8, .inr (.inl aw))), (h, .inr (0, [ps_tape, .ref rp, ps_sha, ps_stock, ps_intake, ps_view, ps_text, ps_maker, ps_recording, ps_tapeLength, ps_lastFault])), (rp, .inl (cR, 8, .inr (.inr (.inr (.inr rf)))))] H := hP
    have hD : va_D A [(rr, .inr (7, [.ref mb, rr_digest, .int 0, rr_version, rr_digestVersion])), (mb, .inl (cL, 8, .inr (.inl mw))), (r2, .inr (7, [.ref m2, r2_digest, r2_size, r2_version, r2_digestVersion])), (m2, .inl (cL, 8, .inr (.inl aw))), (h, .inr (0, [ps_tape, .ref rp, ps_sha, ps_stock, ps_intake, ps_view, ps_text, ps_maker, ps_recording, ps_tapeLength, ps_lastFault])), (rp, .inl (cR, 8, .inr (.inr (.inr (.inr rf)))))] := hD
    refine W.eq (g2 := F0 m 5 ls [.ref rr]) rfl ?_
    refine W.widen (k := 1) (n := 6) (Nat.le_of_ble_eq_true rfl) (Nat.le_of_ble_eq_true rfl) ?_
    refine lv_astore (lv' := [(4, .ref rr), (0, .ref h), (1, .int p0), (2, .int p1), (3, .int p2)]) hx hb d_PS_pull_5 hl (by decide) rfl (fun ls hl => ?_)
    refine lv_aload_n hx hb d_PS_pull_7 rfl (lv_at hl 1 rfl) ?_
    refine lv_iload_n hx hb d_PS_pull_8 rfl (lv_at hl 3 rfl) ?_
    have hPc := hP.sub (ws' := [(h, .inr (0, [ps_tape, .ref rp, ps_sha, ps_stock, ps_intake, ps_view, ps_text, ps_maker, ps_recording, ps_tapeLength, ps_lastFault])), (rp, .inl (cR, 8, .inr (.inr (.inr (.inr rf)))))]) [4, 5] rfl
    have hDc := hD.sub (ws' := [(h, .inr (0, [ps_tape, .ref rp, ps_sha, ps_stock, ps_intake, ps_view, ps_text, ps_maker, ps_recording, ps_tapeLength, ps_lastFault])), (rp, .inl (cR, 8, .inr (.inr (.inr (.inr rf)))))]) [4, 5] (by decide) rfl
    have hFc := va_free (wc := [(h, .inr (0, [ps_tape, .ref rp, ps_sha, ps_stock, ps_intake, ps_view, ps_text, ps_maker, ps_recording, ps_tapeLength, ps_lastFault])), (rp, .inl (cR, 8, .inr (.inr (.inr (.inr rf)))))]) hD hS hA [4, 5] rfl
    refine xc_call (xc_runV (As := [.int p1]) (rest := []) (C := "PatchStore") ⟨hx, hb, hml, hown, hts⟩ (m_PS_repositoryAt l dC dI cI cB cL cZ cR hlt h rp (ps_tape) (ps_sha) (ps_stock) (ps_intake) (ps_view) (ps_text) (ps_maker) (ps_recording) (ps_tapeLength) (ps_lastFault) g rf p1 H.size hrf) (xc_bOf 1 hts (xg_in gw_703) (xc_Is.code (hts _ gw_703)) rfl rfl (hts _ gw_1) (by decide +kernel) ⟨Nat.le_of_ble_eq_true rfl, Nat.le_of_ble_eq_true rfl⟩) (hts _ gw_700) (hts _ gw_702) (hts _ (xg_p 2 (q := (⟨"PatchStore", "repositoryAt", "(I)LPatchStore$Repository;"⟩, 11)) (by decide +kernel))) ⟨xw_blindx, va_recv hK hPc (ci := 0) (q0 := 0) rfl rfl, fun U hU hW => ⟨rfl, by rw [hU], by rw [hU]; exact hPc, va_K.moved hW.alike hK, hDc.weaken (fun _ _ _ _ => trivial), xg_N.warm hW hN, by rw [hU]; exact ((hTh.kept (fun a h1 h2 => hS.2.1 a h1 h2)).narrow hFc).moved hW.alike⟩⟩ rfl rfl hl.1 rfl (lv_room (Nat.le_of_ble_eq_true rfl)) d_PS_pull_9 ⟨Nat.le_of_ble_eq_true rfl, Nat.le_of_ble_eq_true rfl⟩) hS (fun q _ h => hFc q h) hFc (fun v9 u t H1 locs ht hvm hw hB hz1 hk1 hS => ?_) (fun x9 C9 u t H1 locs ht hvm hw hex hB hz1 hk1 hS => ?_)
    · obtain ⟨n1, hn1, en1, rfl⟩ := hw
      rw [hrr_r2 n1 hn1 en1]
      obtain ⟨hP1, hK1, hD1⟩ := hB
      rw [ht] at hP1
      obtain ⟨hP, hD⟩ := va_join (wr := [(rr, .inr (7, [.ref mb, rr_digest, .int 0, rr_version, rr_digestVersion])), (mb, .inl (cL, 8, .inr (.inl mw))), (r2, .inr (7, [.ref m2, r2_digest, r2_size, r2_version, r2_digestVersion])), (m2, .inl (cL, 8, .inr (.inl aw)))]) (w1 := [(h, .inr (0, [ps_tape, .ref rp, ps_sha, ps_stock, ps_intake, ps_view, ps_text, ps_maker, ps_recording, ps_tapeLength, ps_lastFault])), (rp, .inl (cR, 8, .inr (.inr (.inr (.inr rf)))))]) hP hD [4, 5] [0, 1, 2, 3] rfl rfl (by decide) (by decide) hk1 hFc hP1 hD1
      generalize H1 = H at hP hS ht ⊢
      have hP : va_P (dC, dI) classes [(rr, .inr (7, [.ref mb, rr_digest, .int 0, rr_version, rr_digestVersion])), (mb, .inl (cL, 8, .inr (.inl mw))), (r2, .inr (7, [.ref m2, r2_digest, r2_size, r2_version, r2_digestVersion])), (m2, .inl (cL, 8, .inr (.inl aw))), (h, .inr (0, [ps_tape, .ref rp, ps_sha, ps_stock, ps_intake, ps_view, ps_text, ps_maker, ps_recording, ps_tapeLength, ps_lastFault])), (rp, .inl (cR, 8, .inr (.inr (.inr (.inr rf)))))] H := hP
      have hD : va_D A [(rr, .inr (7, [.ref mb, rr_digest, .int 0, rr_version, rr_digestVersion])), (mb, .inl (cL, 8, .inr (.inl mw))), (r2, .inr (7, [.ref m2, r2_digest, r2_size, r2_version, r2_digestVersion])), (m2, .inl (cL, 8, .inr (.inl aw))), (h, .inr (0, [ps_tape, .ref rp, ps_sha, ps_stock, ps_intake, ps_view, ps_text, ps_maker, ps_recording, ps_tapeLength, ps_lastFault])), (rp, .inl (cR, 8, .inr (.inr (.inr (.inr rf)))))] := hD
      refine W.eq (g2 := F0 m 12 ls [.ref r2]) rfl ?_
      refine W.widen (k := 2) (n := 12) (Nat.le_of_ble_eq_true rfl) (Nat.le_of_ble_eq_true rfl) ?_
      refine lv_astore (lv' := [(5, .ref r2), (4, .ref rr), (0, .ref h), (1, .int p0), (2, .int p1), (3, .int p2)]) hx hb d_PS_pull_12 hl (by decide) rfl (fun ls hl => ?_)
      refine lv_iload_n hx hb d_PS_pull_14 rfl (lv_at hl 5 rfl) ?_
      refine lv_if_ge (tgt := 30) hx hb d_PS_pull_15 (by decide) (fun c_15 => ?_) (fun c_15 => ?_)
      · refine lv_aload hx hb d_PS_pull_30 (lv_at hl 0 rfl) ?_
        refine lv_iload_n hx hb d_PS_pull_32 rfl (lv_at hl 5 rfl) ?_
        have hPc := hP.sub (ws' := [(r2, .inr (7, [.ref m2, r2_digest, r2_size, r2_version, r2_digestVersion])), (m2, .inl (cL, 8, .inr (.inl aw)))]) [2, 3] rfl
        have hDc := hD.sub (ws' := [(r2, .inr (7, [.ref m2, r2_digest, r2_size, r2_version, r2_digestVersion])), (m2, .inl (cL, 8, .inr (.inl aw)))]) [2, 3] (by decide) rfl
        have hFc := va_free (wc := [(r2, .inr (7, [.ref m2, r2_digest, r2_size, r2_version, r2_digestVersion])), (m2, .inl (cL, 8, .inr (.inl aw)))]) hD hS hA [2, 3] rfl
        refine va_calli (va_runV (As := [.int p2]) (rest := []) ⟨hx, hb, hml, hown, hts⟩ (m_Re_holds l dC dI cI cB cL cZ cR r2 m2 (r2_digest) (r2_size) (r2_version) (r2_digestVersion) aw p2 H.size ) (cwV 1 hts (xg_V gw_1240 gw_826 gw_827 gw_12 gw_828) rfl rfl rfl (by decide +kernel) ⟨Nat.le_of_ble_eq_true rfl, Nat.le_of_ble_eq_true rfl⟩) ⟨xw_blind, va_recv hK hPc (ci := 7) (q0 := 0) rfl rfl, fun U hU hW => ⟨rfl, by rw [hU], by rw [hU]; exact hPc, va_K.moved hW.alike hK, hDc.weaken (fun _ _ _ _ => trivial)⟩⟩ rfl rfl hl.1 rfl (lv_room (Nat.le_of_ble_eq_true rfl)) d_PS_pull_33 ⟨Nat.le_of_ble_eq_true rfl, Nat.le_of_ble_eq_true rfl⟩) hS (fun q _ h => hFc q h) hFc (fun r9 u t H1 locs ht hvm hw hB hz1 hk1 hS => ?_)
        obtain ⟨hP1, hK1, hD1⟩ := hB
        rw [ht] at hP1
        obtain ⟨hP, hD⟩ := va_join (wr := [(rr, .inr (7, [.ref mb, rr_digest, .int 0, rr_version, rr_digestVersion])), (mb, .inl (cL, 8, .inr (.inl mw))), (h, .inr (0, [ps_tape, .ref rp, ps_sha, ps_stock, ps_intake, ps_view, ps_text, ps_maker, ps_recording, ps_tapeLength, ps_lastFault])), (rp, .inl (cR, 8, .inr (.inr (.inr (.inr rf)))))]) (w1 := [(r2, .inr (7, [.ref m2, r2_digest, r2_size, r2_version, r2_digestVersion])), (m2, .inl (cL, 8, .inr (.inl aw)))]) hP hD [2, 3] [0, 1, 4, 5] rfl rfl (by decide) (by decide) hk1 hFc hP1 hD1
        generalize H1 = H at hP hS ⊢
        have hP : va_P (dC, dI) classes [(rr, .inr (7, [.ref mb, rr_digest, .int 0, rr_version, rr_digestVersion])), (mb, .inl (cL, 8, .inr (.inl mw))), (h, .inr (0, [ps_tape, .ref rp, ps_sha, ps_stock, ps_intake, ps_view, ps_text, ps_maker, ps_recording, ps_tapeLength, ps_lastFault])), (rp, .inl (cR, 8, .inr (.inr (.inr (.inr rf))))), (r2, .inr (7, [.ref m2, r2_digest, r2_size, r2_version, r2_digestVersion])), (m2, .inl (cL, 8, .inr (.inl aw)))] H := hP
        have hD : va_D A [(rr, .inr (7, [.ref mb, rr_digest, .int 0, rr_version, rr_digestVersion])), (mb, .inl (cL, 8, .inr (.inl mw))), (h, .inr (0, [ps_tape, .ref rp, ps_sha, ps_stock, ps_intake, ps_view, ps_text, ps_maker, ps_recording, ps_tapeLength, ps_lastFault])), (rp, .inl (cR, 8, .inr (.inr (.inr (.inr rf))))), (r2, .inr (7, [.ref m2, r2_digest, r2_size, r2_version, r2_digestVersion])), (m2, .inl (cL, 8, .inr (.inl aw)))] := hD
        have hr9 : r9 = 0 := by rcases hw with ⟨-, h9⟩ | ⟨h9, -⟩; exact absurd h9 (re_no _ hz2); exact h9
        subst hr9
        refine lv_if_ne (tgt := 47) hx hb d_PS_pull_36 (by decide) (fun c_36 => absurd c_36 (by decide)) (fun _ => ?_)
        refine xc_thrownew (A := A) (own := "PatchStore") (C := "java/util/NoSuchElementException") (names := ["java/lang/RuntimeException", "java/lang/Exception"]) (i1 := 174) (i2 := 176) hx hb hml hl.1 hown hlocks hno htr (by decide +kernel) (by decide +kernel) (tw_PS_174 hts hN) (tr_PS_174) (ti_PS_174) (hTh.1.kept (fun a h1 h2 => hS.2.1 a h1 h2)) d_PS_pull_39 d_PS_pull_42 d_PS_pull_43 d_PS_pull_46 (Nat.le_of_ble_eq_true rfl) (Nat.le_of_ble_eq_true rfl) (Nat.le_of_ble_eq_true rfl) (Nat.le_of_ble_eq_true rfl) (fun x9 t9 H9 e1 e2 e3 hW9 hex => ⟨Or.inr ⟨x9, "java/util/NoSuchElementException", (), rfl, ⟨rfl, Or.inr (Or.inr (Int32.not_lt.mpr c_15))⟩, hex, trivial⟩, (by rw [e1]; exact Nat.le_trans hS.1 e2), fun q h1 h2 => by rw [e1]; exact (e3 q (Nat.lt_of_lt_of_le h1 hS.1)).trans (hS.2.1 q h1 h2)⟩) hS.2.2
      · refine lv_aload hx hb d_PS_pull_18 (lv_at hl 1 rfl) ?_
        refine lv_aload hx hb d_PS_pull_20 (lv_at hl 0 rfl) ?_
        refine va_get (D := (dC, dI)) (ci := 7) (v := .ref m2) (C := R_Re) (T := F_Re) (N := 5) hx hb hts i_Re hown hK hP 2 rfl rfl 0 (by decide) (hts _ gw_528) (fun _ h9 => h9) rfl d_PS_pull_22 ?_
        refine lv_iconst (v := 0) hx hb d_PS_pull_25 (by decide) ?_
        have hPc := hP.sub (ws' := [(rr, .inr (7, [.ref mb, rr_digest, .int 0, rr_version, rr_digestVersion])), (mb, .inl (cL, 8, .inr (.inl mw))), (m2, .inl (cL, 8, .inr (.inl aw)))]) [0, 1, 3] rfl
        have hDc := hD.sub (ws' := [(rr, .inr (7, [.ref mb, rr_digest, .int 0, rr_version, rr_digestVersion])), (mb, .inl (cL, 8, .inr (.inl mw))), (m2, .inl (cL, 8, .inr (.inl aw)))]) [0, 1, 3] (by decide) rfl
        have hFc := va_free (wc := [(rr, .inr (7, [.ref mb, rr_digest, .int 0, rr_version, rr_digestVersion])), (mb, .inl (cL, 8, .inr (.inl mw))), (m2, .inl (cL, 8, .inr (.inl aw)))]) hD hS hA [0, 1, 3] rfl
        refine va_calli (va_runV (As := [.ref m2, .int 0]) (rest := []) ⟨hx, hb, hml, hown, hts⟩ (m_Re_takeAll0 l dC dI cI cB cL cZ cR rr mb m2 (rr_digest) (rr_version) (rr_digestVersion) mw aw H.size hz hz2) (cwV 2 hts (xg_V gw_1230 gw_1231 gw_1232 gw_12 gw_1233) rfl rfl rfl (by decide +kernel) ⟨Nat.le_of_ble_eq_true rfl, Nat.le_of_ble_eq_true rfl⟩) ⟨xw_blind, va_recv hK hPc (ci := 7) (q0 := 0) rfl rfl, fun U hU hW => ⟨rfl, by rw [hU], by rw [hU]; exact hPc, va_K.moved hW.alike hK, hDc.weaken (fun _ _ _ _ => trivial)⟩⟩ rfl rfl hl.1 rfl (lv_room (Nat.le_of_ble_eq_true rfl)) d_PS_pull_26 ⟨Nat.le_of_ble_eq_true rfl, Nat.le_of_ble_eq_true rfl⟩) hS (fun q _ h => hFc q h) hFc (fun r9 u t H1 locs ht hvm hw hB hz1 hk1 hS => ?_)
        obtain ⟨hP1, hK1, hD1⟩ := hB
        rw [ht] at hP1
        obtain ⟨hP, hD⟩ := va_join (wr := [(r2, .inr (7, [.ref m2, r2_digest, r2_size, r2_version, r2_digestVersion])), (h, .inr (0, [ps_tape, .ref rp, ps_sha, ps_stock, ps_intake, ps_view, ps_text, ps_maker, ps_recording, ps_tapeLength, ps_lastFault])), (rp, .inl (cR, 8, .inr (.inr (.inr (.inr rf)))))]) (w1 := [(rr, .inr (7, [.ref mb, rr_digest, .int 0, rr_version, rr_digestVersion])), (mb, .inl (cL, 8, .inr (.inl u))), (m2, .inl (cL, 8, .inr (.inl aw)))]) hP hD [0, 1, 3] [2, 4, 5] rfl rfl (by decide) (by decide) hk1 hFc hP1 hD1
        generalize H1 = H at hP hS ⊢
        have hP : va_P (dC, dI) classes [(r2, .inr (7, [.ref m2, r2_digest, r2_size, r2_version, r2_digestVersion])), (h, .inr (0, [ps_tape, .ref rp, ps_sha, ps_stock, ps_intake, ps_view, ps_text, ps_maker, ps_recording, ps_tapeLength, ps_lastFault])), (rp, .inl (cR, 8, .inr (.inr (.inr (.inr rf))))), (rr, .inr (7, [.ref mb, rr_digest, .int 0, rr_version, rr_digestVersion])), (mb, .inl (cL, 8, .inr (.inl u))), (m2, .inl (cL, 8, .inr (.inl aw)))] H := hP
        have hD : va_D A [(r2, .inr (7, [.ref m2, r2_digest, r2_size, r2_version, r2_digestVersion])), (h, .inr (0, [ps_tape, .ref rp, ps_sha, ps_stock, ps_intake, ps_view, ps_text, ps_maker, ps_recording, ps_tapeLength, ps_lastFault])), (rp, .inl (cR, 8, .inr (.inr (.inr (.inr rf))))), (rr, .inr (7, [.ref mb, rr_digest, .int 0, rr_version, rr_digestVersion])), (mb, .inl (cL, 8, .inr (.inl u))), (m2, .inl (cL, 8, .inr (.inl aw)))] := hD
        subst hw
        refine W.widen (k := 3) (n := 18) (Nat.le_of_ble_eq_true rfl) (Nat.le_of_ble_eq_true rfl) ?_
        exact xc_ret (W.iret (v := 0) hx hb hr (fun t ht hW => ⟨Or.inl ⟨_, (), rfl, ⟨⟨n0, hn0, en0⟩, ⟨n1, hn1, en1⟩, Int32.not_le.mp c_15, rfl⟩, trivial⟩, hS.F ht⟩) hS.2.2 d_PS_pull_29)
    · obtain ⟨hbad, rfl⟩ := hw
      refine xc_TW.widen (k := 3) (n := 18) (Nat.le_of_ble_eq_true rfl) (Nat.le_of_ble_eq_true rfl) ?_
      exact xc_pass (u := ()) hlocks hno ht hvm hex (⟨rfl, Or.inr (Or.inl hbad)⟩) (fun _ _ _ => trivial) hS
  · obtain ⟨hbad, rfl⟩ := hw
    refine xc_TW.widen (k := 3) (n := 18) (Nat.le_of_ble_eq_true rfl) (Nat.le_of_ble_eq_true rfl) ?_
    exact xc_pass (u := ()) hlocks hno ht hvm hex (⟨rfl, Or.inl hbad⟩) (fun _ _ _ => trivial) hS
set_option maxHeartbeats 4000000 in
set_option maxRecDepth 100000 in
/-- pull on a fresh object -/
theorem m_PS_pull0s (l : Launch) (dC : Nat → ClassId) (dI : Nat → Nat → Nat) (cI cB cL cZ cR : ClassId) (hlt : xl_T l) (h rp rr mb : Nat) (ps_tape ps_sha ps_stock ps_intake ps_view ps_text ps_maker ps_recording ps_tapeLength ps_lastFault rr_digest rr_version rr_digestVersion : Value) (mw : Nat → Int64) (g : Nat → Nat) (rf : Nat → Option Nat) (p0 p2 : Int32) (sz : Nat) (hrf : ∀ k, k < 8 → rf k = some (g k)) (hrr_rr : ∀ n, n < 8 → p0 = nI n → g n = rr) (hz : ∀ j, j < 8 → mw j = 0) : xc_Met l y_PS_pull ws_PS_pull ({ frames := 14, cells := 3, slots := 18, locals := 400 }) (xw_Px dC dI [(cI, .int), (cB, .byte), (cL, .long), (cZ, .boolean), (cR, .object "PatchStore$Repository")] [.ref h, .int p0, .int p0, .int p2] [(h, .inr (0, [ps_tape, .ref rp, ps_sha, ps_stock, ps_intake, ps_view, ps_text, ps_maker, ps_recording, ps_tapeLength, ps_lastFault])), (rp, .inl (cR, 8, .inr (.inr (.inr (.inr rf))))), (rr, .inr (7, [.ref mb, rr_digest, .int 0, rr_version, rr_digestVersion])), (mb, .inl (cL, 8, .inr (.inl mw)))] sz) (xc_Q (S := Unit) (fun v (_ : Unit) => (∃ n : Nat, n < 8 ∧ p0 = nI n) ∧ (∃ n : Nat, n < 8 ∧ p0 = nI n) ∧ p2 < 0 ∧ v = some (.int 0)) (fun C (_ : Unit) => C = "java/util/NoSuchElementException" ∧ ((¬ ∃ n : Nat, n < 8 ∧ p0 = nI n) ∨ (¬ ∃ n : Nat, n < 8 ∧ p0 = nI n) ∨ ¬ p2 < 0)) (fun _ _ => True) (va_A [(h, .inr (0, [ps_tape, .ref rp, ps_sha, ps_stock, ps_intake, ps_view, ps_text, ps_maker, ps_recording, ps_tapeLength, ps_lastFault])), (rp, .inl (cR, 8, .inr (.inr (.inr (.inr rf))))), (rr, .inr (7, [.ref mb, rr_digest, .int 0, rr_version, rr_digestVersion])), (mb, .inl (cL, 8, .inr (.inl mw)))] sz)) 3 18 (va_A [(h, .inr (0, [ps_tape, .ref rp, ps_sha, ps_stock, ps_intake, ps_view, ps_text, ps_maker, ps_recording, ps_tapeLength, ps_lastFault])), (rp, .inl (cR, 8, .inr (.inr (.inr (.inr rf))))), (rr, .inr (7, [.ref mb, rr_digest, .int 0, rr_version, rr_digestVersion])), (mb, .inl (cL, 8, .inr (.inl mw)))] sz) := by
  refine xc_ofW (cc := prog_1_method_10_code) (maxL := 6) (ret := (Option.some Jvm.ClassFile.FieldType.int)) (by decide) rfl ?_
  intro p e s m args below meth c s₁ B hml hno hv
  obtain ⟨rfl, hsz, hP, hK, hD0, hN, hTh⟩ := hv
  have htr : e.platform.stackTraces = false := hlt e B.admits
  have hx := B.exec
  have hb := B.bytes
  have hr := B.returns
  have hts0 := atoms_spec (ws := ws_PS_pull) B.pre
  have hts : ∀ w ∈ xg_1, w.before _ s = true := fun w h => hts0 w (List.mem_cons_of_mem _ h)
  have hown : s.vm.findClass "PatchStore" = some m.cls := findClass_of_methodNamed B.named
  have hlocks := B.notSynchronized
  subst hsz
  have hD := hD0.self (sz := s.heap.size)
  generalize hAe : va_A [(h, .inr (0, [ps_tape, .ref rp, ps_sha, ps_stock, ps_intake, ps_view, ps_text, ps_maker, ps_recording, ps_tapeLength, ps_lastFault])), (rp, .inl (cR, 8, .inr (.inr (.inr (.inr rf))))), (rr, .inr (7, [.ref mb, rr_digest, .int 0, rr_version, rr_digestVersion])), (mb, .inl (cL, 8, .inr (.inl mw)))] s.heap.size = A at hD hTh ⊢
  have hA : ∀ q : Nat, s.heap.size ≤ q → A q := fun q h => by rw [← hAe]; exact Or.inr h
  have hS : va_S A s.heap s.heap [] := va_S.rf
  have hl := lv_entry ([.ref h, .int p0, .int p0, .int p2]) (n := 6) (Nat.le_of_ble_eq_true rfl)
  rw [lg_entry_eq]
  generalize (lg_sl ([.ref h, .int p0, .int p0, .int p2]) ++ List.replicate (6 - (lg_sl ([.ref h, .int p0, .int p0, .int p2])).length) Slot.unset).toArray = ls at hl ⊢
  have hl : lv_has ls 6 [(0, .ref h), (1, .int p0), (2, .int p0), (3, .int p2)] := hl
  refine lv_aload_n hx hb d_PS_pull_0 rfl (lv_at hl 0 rfl) ?_
  refine lv_iload_n hx hb d_PS_pull_1 rfl (lv_at hl 1 rfl) ?_
  have hPc := hP.sub (ws' := [(h, .inr (0, [ps_tape, .ref rp, ps_sha, ps_stock, ps_intake, ps_view, ps_text, ps_maker, ps_recording, ps_tapeLength, ps_lastFault])), (rp, .inl (cR, 8, .inr (.inr (.inr (.inr rf)))))]) [0, 1] rfl
  have hDc := hD.sub (ws' := [(h, .inr (0, [ps_tape, .ref rp, ps_sha, ps_stock, ps_intake, ps_view, ps_text, ps_maker, ps_recording, ps_tapeLength, ps_lastFault])), (rp, .inl (cR, 8, .inr (.inr (.inr (.inr rf)))))]) [0, 1] (by decide) rfl
  have hFc := va_free (wc := [(h, .inr (0, [ps_tape, .ref rp, ps_sha, ps_stock, ps_intake, ps_view, ps_text, ps_maker, ps_recording, ps_tapeLength, ps_lastFault])), (rp, .inl (cR, 8, .inr (.inr (.inr (.inr rf)))))]) hD hS hA [0, 1] rfl
  refine xc_call (xc_runV (As := [.int p0]) (rest := []) (C := "PatchStore") ⟨hx, hb, hml, hown, hts⟩ (m_PS_repositoryAt l dC dI cI cB cL cZ cR hlt h rp (ps_tape) (ps_sha) (ps_stock) (ps_intake) (ps_view) (ps_text) (ps_maker) (ps_recording) (ps_tapeLength) (ps_lastFault) g rf p0 s.heap.size hrf) (xc_bOf 1 hts (xg_in gw_703) (xc_Is.code (hts _ gw_703)) rfl rfl (hts _ gw_1) (by decide +kernel) ⟨Nat.le_of_ble_eq_true rfl, Nat.le_of_ble_eq_true rfl⟩) (hts _ gw_700) (hts _ gw_702) (hts _ (xg_p 2 (q := (⟨"PatchStore", "repositoryAt", "(I)LPatchStore$Repository;"⟩, 11)) (by decide +kernel))) ⟨xw_blindx, va_recv hK hPc (ci := 0) (q0 := 0) rfl rfl, fun U hU hW => ⟨rfl, by rw [hU], by rw [hU]; exact hPc, va_K.moved hW.alike hK, hDc.weaken (fun _ _ _ _ => trivial), xg_N.warm hW hN, by rw [hU]; exact ((hTh.kept (fun a h1 h2 => hS.2.1 a h1 h2)).narrow hFc).moved hW.alike⟩⟩ rfl rfl hl.1 rfl (lv_room (Nat.le_of_ble_eq_true rfl)) d_PS_pull_2 ⟨Nat.le_of_ble_eq_true rfl, Nat.le_of_ble_eq_true rfl⟩) hS (fun q _ h => hFc q h) hFc (fun v9 u t H1 locs ht hvm hw hB hz1 hk1 hS => ?_) (fun x9 C9 u t H1 locs ht hvm hw hex hB hz1 hk1 hS => ?_)
  · obtain ⟨n0, hn0, en0, rfl⟩ := hw
    rw [hrr_rr n0 hn0 en0]
    obtain ⟨hP1, hK1, hD1⟩ := hB
    rw [ht] at hP1
    obtain ⟨hP, hD⟩ := va_join (wr := [(rr, .inr (7, [.ref mb, rr_digest, .int 0, rr_version, rr_digestVersion])), (mb, .inl (cL, 8, .inr (.inl mw)))]) (w1 := [(h, .inr (0, [ps_tape, .ref rp, ps_sha, ps_stock, ps_intake, ps_view, ps_text, ps_maker, ps_recording, ps_tapeLength, ps_lastFault])), (rp, .inl (cR, 8, .inr (.inr (.inr (.inr rf)))))]) hP hD [0, 1] [2, 3] rfl rfl (by decide) (by decide) hk1 hFc hP1 hD1
    generalize H1 = H at hP hS ht ⊢
    have hP : va_P (dC, dI) classes [(rr, .inr (7, [.ref mb, rr_digest, .int 0, rr_version, rr_digestVersion])), (mb, .inl (cL, 8, .inr (.inl mw))), (h, .inr (0, [ps_tape, .ref rp, ps_sha, ps_stock, ps_intake, ps_view, ps_text, ps_maker, ps_recording, ps_tapeLength, ps_lastFault])), (rp, .inl (cR, 8, .inr (.inr (.inr (.inr rf)))))] H := hP
    have hD : va_D A [(rr, .inr (7, [.ref mb, rr_digest, .int 0, rr_version, rr_digestVersion])), (mb, .inl (cL, 8, .inr (.inl mw))), (h, .inr (0, [ps_tape, .ref rp, ps_sha, ps_stock, ps_intake, ps_view, ps_text, ps_maker, ps_recording, ps_tapeLength, ps_lastFault])), (rp, .inl (cR, 8, .inr (.inr (.inr (.inr rf)))))] := hD
    refine W.eq (g2 := F0 m 5 ls [.ref rr]) rfl ?_
    refine W.widen (k := 1) (n := 6) (Nat.le_of_ble_eq_true rfl) (Nat.le_of_ble_eq_true rfl) ?_
    refine lv_astore (lv' := [(4, .ref rr), (0, .ref h), (1, .int p0), (2, .int p0), (3, .int p2)]) hx hb d_PS_pull_5 hl (by decide) rfl (fun ls hl => ?_)
    refine lv_aload_n hx hb d_PS_pull_7 rfl (lv_at hl 1 rfl) ?_
    refine lv_iload_n hx hb d_PS_pull_8 rfl (lv_at hl 3 rfl) ?_
    have hPc := hP.sub (ws' := [(h, .inr (0, [ps_tape, .ref rp, ps_sha, ps_stock, ps_intake, ps_view, ps_text, ps_maker, ps_recording, ps_tapeLength, ps_lastFault])), (rp, .inl (cR, 8, .inr (.inr (.inr (.inr rf)))))]) [2, 3] rfl
    have hDc := hD.sub (ws' := [(h, .inr (0, [ps_tape, .ref rp, ps_sha, ps_stock, ps_intake, ps_view, ps_text, ps_maker, ps_recording, ps_tapeLength, ps_lastFault])), (rp, .inl (cR, 8, .inr (.inr (.inr (.inr rf)))))]) [2, 3] (by decide) rfl
    have hFc := va_free (wc := [(h, .inr (0, [ps_tape, .ref rp, ps_sha, ps_stock, ps_intake, ps_view, ps_text, ps_maker, ps_recording, ps_tapeLength, ps_lastFault])), (rp, .inl (cR, 8, .inr (.inr (.inr (.inr rf)))))]) hD hS hA [2, 3] rfl
    refine xc_call (xc_runV (As := [.int p0]) (rest := []) (C := "PatchStore") ⟨hx, hb, hml, hown, hts⟩ (m_PS_repositoryAt l dC dI cI cB cL cZ cR hlt h rp (ps_tape) (ps_sha) (ps_stock) (ps_intake) (ps_view) (ps_text) (ps_maker) (ps_recording) (ps_tapeLength) (ps_lastFault) g rf p0 H.size hrf) (xc_bOf 1 hts (xg_in gw_703) (xc_Is.code (hts _ gw_703)) rfl rfl (hts _ gw_1) (by decide +kernel) ⟨Nat.le_of_ble_eq_true rfl, Nat.le_of_ble_eq_true rfl⟩) (hts _ gw_700) (hts _ gw_702) (hts _ (xg_p 2 (q := (⟨"PatchStore", "repositoryAt", "(I)LPatchStore$Repository;"⟩, 11)) (by decide +kernel))) ⟨xw_blindx, va_recv hK hPc (ci := 0) (q0 := 0) rfl rfl, fun U hU hW => ⟨rfl, by rw [hU], by rw [hU]; exact hPc, va_K.moved hW.alike hK, hDc.weaken (fun _ _ _ _ => trivial), xg_N.warm hW hN, by rw [hU]; exact ((hTh.kept (fun a h1 h2 => hS.2.1 a h1 h2)).narrow hFc).moved hW.alike⟩⟩ rfl rfl hl.1 rfl (lv_room (Nat.le_of_ble_eq_true rfl)) d_PS_pull_9 ⟨Nat.le_of_ble_eq_true rfl, Nat.le_of_ble_eq_true rfl⟩) hS (fun q _ h => hFc q h) hFc (fun v9 u t H1 locs ht hvm hw hB hz1 hk1 hS => ?_) (fun x9 C9 u t H1 locs ht hvm hw hex hB hz1 hk1 hS => ?_)
    · obtain ⟨n1, hn1, en1, rfl⟩ := hw
      rw [hrr_rr n1 hn1 en1]
      obtain ⟨hP1, hK1, hD1⟩ := hB
      rw [ht] at hP1
      obtain ⟨hP, hD⟩ := va_join (wr := [(rr, .inr (7, [.ref mb, rr_digest, .int 0, rr_version, rr_digestVersion])), (mb, .inl (cL, 8, .inr (.inl mw)))]) (w1 := [(h, .inr (0, [ps_tape, .ref rp, ps_sha, ps_stock, ps_intake, ps_view, ps_text, ps_maker, ps_recording, ps_tapeLength, ps_lastFault])), (rp, .inl (cR, 8, .inr (.inr (.inr (.inr rf)))))]) hP hD [2, 3] [0, 1] rfl rfl (by decide) (by decide) hk1 hFc hP1 hD1
      generalize H1 = H at hP hS ht ⊢
      have hP : va_P (dC, dI) classes [(rr, .inr (7, [.ref mb, rr_digest, .int 0, rr_version, rr_digestVersion])), (mb, .inl (cL, 8, .inr (.inl mw))), (h, .inr (0, [ps_tape, .ref rp, ps_sha, ps_stock, ps_intake, ps_view, ps_text, ps_maker, ps_recording, ps_tapeLength, ps_lastFault])), (rp, .inl (cR, 8, .inr (.inr (.inr (.inr rf)))))] H := hP
      have hD : va_D A [(rr, .inr (7, [.ref mb, rr_digest, .int 0, rr_version, rr_digestVersion])), (mb, .inl (cL, 8, .inr (.inl mw))), (h, .inr (0, [ps_tape, .ref rp, ps_sha, ps_stock, ps_intake, ps_view, ps_text, ps_maker, ps_recording, ps_tapeLength, ps_lastFault])), (rp, .inl (cR, 8, .inr (.inr (.inr (.inr rf)))))] := hD
      refine W.eq (g2 := F0 m 12 ls [.ref rr]) rfl ?_
      refine W.widen (k := 2) (n := 12) (Nat.le_of_ble_eq_true rfl) (Nat.le_of_ble_eq_true rfl) ?_
      refine lv_astore (lv' := [(5, .ref rr), (4, .ref rr), (0, .ref h), (1, .int p0), (2, .int p0), (3, .int p2)]) hx hb d_PS_pull_12 hl (by decide) rfl (fun ls hl => ?_)
      refine lv_iload_n hx hb d_PS_pull_14 rfl (lv_at hl 5 rfl) ?_
      refine lv_if_ge (tgt := 30) hx hb d_PS_pull_15 (by decide) (fun c_15 => ?_) (fun c_15 => ?_)
      · refine lv_aload hx hb d_PS_pull_30 (lv_at hl 0 rfl) ?_
        refine lv_iload_n hx hb d_PS_pull_32 rfl (lv_at hl 5 rfl) ?_
        have hPc := hP.sub (ws' := [(rr, .inr (7, [.ref mb, rr_digest, .int 0, rr_version, rr_digestVersion])), (mb, .inl (cL, 8, .inr (.inl mw)))]) [0, 1] rfl
        have hDc := hD.sub (ws' := [(rr, .inr (7, [.ref mb, rr_digest, .int 0, rr_version, rr_digestVersion])), (mb, .inl (cL, 8, .inr (.inl mw)))]) [0, 1] (by decide) rfl
        have hFc := va_free (wc := [(rr, .inr (7, [.ref mb, rr_digest, .int 0, rr_version, rr_digestVersion])), (mb, .inl (cL, 8, .inr (.inl mw)))]) hD hS hA [0, 1] rfl
        refine va_calli (va_runV (As := [.int p2]) (rest := []) ⟨hx, hb, hml, hown, hts⟩ (m_Re_holds l dC dI cI cB cL cZ cR rr mb (rr_digest) (.int 0) (rr_version) (rr_digestVersion) mw p2 H.size ) (cwV 1 hts (xg_V gw_1240 gw_826 gw_827 gw_12 gw_828) rfl rfl rfl (by decide +kernel) ⟨Nat.le_of_ble_eq_true rfl, Nat.le_of_ble_eq_true rfl⟩) ⟨xw_blind, va_recv hK hPc (ci := 7) (q0 := 0) rfl rfl, fun U hU hW => ⟨rfl, by rw [hU], by rw [hU]; exact hPc, va_K.moved hW.alike hK, hDc.weaken (fun _ _ _ _ => trivial)⟩⟩ rfl rfl hl.1 rfl (lv_room (Nat.le_of_ble_eq_true rfl)) d_PS_pull_33 ⟨Nat.le_of_ble_eq_true rfl, Nat.le_of_ble_eq_true rfl⟩) hS (fun q _ h => hFc q h) hFc (fun r9 u t H1 locs ht hvm hw hB hz1 hk1 hS => ?_)
        obtain ⟨hP1, hK1, hD1⟩ := hB
        rw [ht] at hP1
        obtain ⟨hP, hD⟩ := va_join (wr := [(h, .inr (0, [ps_tape, .ref rp, ps_sha, ps_stock, ps_intake, ps_view, ps_text, ps_maker, ps_recording, ps_tapeLength, ps_lastFault])), (rp, .inl (cR, 8, .inr (.inr (.inr (.inr rf)))))]) (w1 := [(rr, .inr (7, [.ref mb, rr_digest, .int 0, rr_version, rr_digestVersion])), (mb, .inl (cL, 8, .inr (.inl mw)))]) hP hD [0, 1] [2, 3] rfl rfl (by decide) (by decide) hk1 hFc hP1 hD1
        generalize H1 = H at hP hS ⊢
        have hP : va_P (dC, dI) classes [(h, .inr (0, [ps_tape, .ref rp, ps_sha, ps_stock, ps_intake, ps_view, ps_text, ps_maker, ps_recording, ps_tapeLength, ps_lastFault])), (rp, .inl (cR, 8, .inr (.inr (.inr (.inr rf))))), (rr, .inr (7, [.ref mb, rr_digest, .int 0, rr_version, rr_digestVersion])), (mb, .inl (cL, 8, .inr (.inl mw)))] H := hP
        have hD : va_D A [(h, .inr (0, [ps_tape, .ref rp, ps_sha, ps_stock, ps_intake, ps_view, ps_text, ps_maker, ps_recording, ps_tapeLength, ps_lastFault])), (rp, .inl (cR, 8, .inr (.inr (.inr (.inr rf))))), (rr, .inr (7, [.ref mb, rr_digest, .int 0, rr_version, rr_digestVersion])), (mb, .inl (cL, 8, .inr (.inl mw)))] := hD
        have hr9 : r9 = 0 := by rcases hw with ⟨-, h9⟩ | ⟨h9, -⟩; exact absurd h9 (re_no _ hz); exact h9
        subst hr9
        refine lv_if_ne (tgt := 47) hx hb d_PS_pull_36 (by decide) (fun c_36 => absurd c_36 (by decide)) (fun _ => ?_)
        refine xc_thrownew (A := A) (own := "PatchStore") (C := "java/util/NoSuchElementException") (names := ["java/lang/RuntimeException", "java/lang/Exception"]) (i1 := 174) (i2 := 176) hx hb hml hl.1 hown hlocks hno htr (by decide +kernel) (by decide +kernel) (tw_PS_174 hts hN) (tr_PS_174) (ti_PS_174) (hTh.1.kept (fun a h1 h2 => hS.2.1 a h1 h2)) d_PS_pull_39 d_PS_pull_42 d_PS_pull_43 d_PS_pull_46 (Nat.le_of_ble_eq_true rfl) (Nat.le_of_ble_eq_true rfl) (Nat.le_of_ble_eq_true rfl) (Nat.le_of_ble_eq_true rfl) (fun x9 t9 H9 e1 e2 e3 hW9 hex => ⟨Or.inr ⟨x9, "java/util/NoSuchElementException", (), rfl, ⟨rfl, Or.inr (Or.inr (Int32.not_lt.mpr c_15))⟩, hex, trivial⟩, (by rw [e1]; exact Nat.le_trans hS.1 e2), fun q h1 h2 => by rw [e1]; exact (e3 q (Nat.lt_of_lt_of_le h1 hS.1)).trans (hS.2.1 q h1 h2)⟩) hS.2.2
      · refine lv_aload hx hb d_PS_pull_18 (lv_at hl 1 rfl) ?_
        refine lv_aload hx hb d_PS_pull_20 (lv_at hl 0 rfl) ?_
        refine va_get (D := (dC, dI)) (ci := 7) (v := .ref mb) (C := R_Re) (T := F_Re) (N := 5) hx hb hts i_Re hown hK hP 0 rfl rfl 0 (by decide) (hts _ gw_528) (fun _ h9 => h9) rfl d_PS_pull_22 ?_
        refine lv_iconst (v := 0) hx hb d_PS_pull_25 (by decide) ?_
        have hPc := hP.sub (ws' := [(rr, .inr (7, [.ref mb, rr_digest, .int 0, rr_version, rr_digestVersion])), (mb, .inl (cL, 8, .inr (.inl mw)))]) [0, 1] rfl
        have hDc := hD.sub (ws' := [(rr, .inr (7, [.ref mb, rr_digest, .int 0, rr_version, rr_digestVersion])), (mb, .inl (cL, 8, .inr (.inl mw)))]) [0, 1] (by decide) rfl
        have hFc := va_free (wc := [(rr, .inr (7, [.ref mb, rr_digest, .int 0, rr_version, rr_digestVersion])), (mb, .inl (cL, 8, .inr (.inl mw)))]) hD hS hA [0, 1] rfl
        refine va_calli (va_runV (As := [.ref mb, .int 0]) (rest := []) ⟨hx, hb, hml, hown, hts⟩ (m_Re_takeAll0s l dC dI cI cB cL cZ cR rr mb (rr_digest) (rr_version) (rr_digestVersion) mw H.size hz) (cwV 2 hts (xg_V gw_1230 gw_1231 gw_1232 gw_12 gw_1233) rfl rfl rfl (by decide +kernel) ⟨Nat.le_of_ble_eq_true rfl, Nat.le_of_ble_eq_true rfl⟩) ⟨xw_blind, va_recv hK hPc (ci := 7) (q0 := 0) rfl rfl, fun U hU hW => ⟨rfl, by rw [hU], by rw [hU]; exact hPc, va_K.moved hW.alike hK, hDc.weaken (fun _ _ _ _ => trivial)⟩⟩ rfl rfl hl.1 rfl (lv_room (Nat.le_of_ble_eq_true rfl)) d_PS_pull_26 ⟨Nat.le_of_ble_eq_true rfl, Nat.le_of_ble_eq_true rfl⟩) hS (fun q _ h => hFc q h) hFc (fun r9 u t H1 locs ht hvm hw hB hz1 hk1 hS => ?_)
        obtain ⟨hP1, hK1, hD1⟩ := hB
        rw [ht] at hP1
        obtain ⟨hP, hD⟩ := va_join (wr := [(h, .inr (0, [ps_tape, .ref rp, ps_sha, ps_stock, ps_intake, ps_view, ps_text, ps_maker, ps_recording, ps_tapeLength, ps_lastFault])), (rp, .inl (cR, 8, .inr (.inr (.inr (.inr rf)))))]) (w1 := [(rr, .inr (7, [.ref mb, rr_digest, .int 0, rr_version, rr_digestVersion])), (mb, .inl (cL, 8, .inr (.inl u)))]) hP hD [0, 1] [2, 3] rfl rfl (by decide) (by decide) hk1 hFc hP1 hD1
        generalize H1 = H at hP hS ⊢
        have hP : va_P (dC, dI) classes [(h, .inr (0, [ps_tape, .ref rp, ps_sha, ps_stock, ps_intake, ps_view, ps_text, ps_maker, ps_recording, ps_tapeLength, ps_lastFault])), (rp, .inl (cR, 8, .inr (.inr (.inr (.inr rf))))), (rr, .inr (7, [.ref mb, rr_digest, .int 0, rr_version, rr_digestVersion])), (mb, .inl (cL, 8, .inr (.inl u)))] H := hP
        have hD : va_D A [(h, .inr (0, [ps_tape, .ref rp, ps_sha, ps_stock, ps_intake, ps_view, ps_text, ps_maker, ps_recording, ps_tapeLength, ps_lastFault])), (rp, .inl (cR, 8, .inr (.inr (.inr (.inr rf))))), (rr, .inr (7, [.ref mb, rr_digest, .int 0, rr_version, rr_digestVersion])), (mb, .inl (cL, 8, .inr (.inl u)))] := hD
        subst hw
        refine W.widen (k := 3) (n := 18) (Nat.le_of_ble_eq_true rfl) (Nat.le_of_ble_eq_true rfl) ?_
        exact xc_ret (W.iret (v := 0) hx hb hr (fun t ht hW => ⟨Or.inl ⟨_, (), rfl, ⟨⟨n0, hn0, en0⟩, ⟨n1, hn1, en1⟩, Int32.not_le.mp c_15, rfl⟩, trivial⟩, hS.F ht⟩) hS.2.2 d_PS_pull_29)
    · obtain ⟨hbad, rfl⟩ := hw
      refine xc_TW.widen (k := 3) (n := 18) (Nat.le_of_ble_eq_true rfl) (Nat.le_of_ble_eq_true rfl) ?_
      exact xc_pass (u := ()) hlocks hno ht hvm hex (⟨rfl, Or.inr (Or.inl hbad)⟩) (fun _ _ _ => trivial) hS
  · obtain ⟨hbad, rfl⟩ := hw
    refine xc_TW.widen (k := 3) (n := 18) (Nat.le_of_ble_eq_true rfl) (Nat.le_of_ble_eq_true rfl) ?_
    exact xc_pass (u := ()) hlocks hno ht hvm hex (⟨rfl, Or.inl hbad⟩) (fun _ _ _ => trivial) hS
