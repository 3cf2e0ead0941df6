/-! 16.init1.lean.txt -/
theorem gw_53 : (Jvm.Cond.methodLink "PatchStore$Sha256" (3 : Nat) ({ cls := "java/lang/Object", name := "<init>", desc := "()V" } : Jvm.MethodName)) ∈ xg_1 := xg_s1 53 rfl rfl
theorem gw_70 : (Jvm.Cond.arrayClass Jvm.ClassFile.FieldType.byte) ∈ xg_1 := xg_s1 70 rfl rfl
theorem gw_71 : (Jvm.Cond.arrayClass Jvm.ClassFile.FieldType.int) ∈ xg_1 := xg_s1 71 rfl rfl
theorem gw_84 : (Jvm.Cond.methodLink "PatchStore$Changes" (3 : Nat) ({ cls := "java/lang/Object", name := "<init>", desc := "()V" } : Jvm.MethodName)) ∈ xg_1 := xg_s1 84 rfl rfl
theorem gw_85 : (Jvm.Cond.constant "PatchStore$Changes" (9 : Nat) (38000 : Int32)) ∈ xg_1 := xg_s1 85 rfl rfl
theorem gw_86 : (Jvm.Cond.fieldLink "PatchStore$Changes" (10 : Nat) "PatchStore$Changes" "at" "[I") ∈ xg_1 := xg_s1 86 rfl rfl
theorem gw_92 : (Jvm.Cond.fieldLink "PatchStore$Changes" (16 : Nat) "PatchStore$Changes" "patch" "[I") ∈ xg_1 := xg_s1 92 rfl rfl
theorem gw_98 : (Jvm.Cond.fieldLink "PatchStore$Changes" (19 : Nat) "PatchStore$Changes" "file" "[I") ∈ xg_1 := xg_s1 98 rfl rfl
theorem gw_103 : (Jvm.Cond.fieldLink "PatchStore$Changes" (22 : Nat) "PatchStore$Changes" "firstLine" "[I") ∈ xg_1 := xg_s1 103 rfl rfl
theorem gw_107 : (Jvm.Cond.fieldLink "PatchStore$Changes" (25 : Nat) "PatchStore$Changes" "adds" "[I") ∈ xg_1 := xg_s1 107 rfl rfl
theorem gw_127 : (Jvm.Cond.arrayClass Jvm.ClassFile.FieldType.long) ∈ xg_1 := xg_s1 127 rfl rfl
theorem gw_133 : (Jvm.Cond.methodLink "PatchStore$Lines" (3 : Nat) ({ cls := "java/lang/Object", name := "<init>", desc := "()V" } : Jvm.MethodName)) ∈ xg_1 := xg_s1 133 rfl rfl
theorem gw_134 : (Jvm.Cond.fieldLink "PatchStore$Lines" (9 : Nat) "PatchStore$Lines" "at" "[I") ∈ xg_1 := xg_s1 134 rfl rfl
theorem gw_138 : (Jvm.Cond.fieldLink "PatchStore$Lines" (15 : Nat) "PatchStore$Lines" "length" "[I") ∈ xg_1 := xg_s1 138 rfl rfl
theorem gw_144 : (Jvm.Cond.fieldLink "PatchStore$Lines" (18 : Nat) "PatchStore$Lines" "change" "[I") ∈ xg_1 := xg_s1 144 rfl rfl
theorem gw_149 : (Jvm.Cond.fieldLink "PatchStore$Lines" (21 : Nat) "PatchStore$Lines" "place" "[I") ∈ xg_1 := xg_s1 149 rfl rfl
theorem gw_154 : (Jvm.Cond.fieldLink "PatchStore$Lines" (24 : Nat) "PatchStore$Lines" "up" "[I") ∈ xg_1 := xg_s1 154 rfl rfl
theorem gw_157 : (Jvm.Cond.fieldLink "PatchStore$Lines" (27 : Nat) "PatchStore$Lines" "down" "[I") ∈ xg_1 := xg_s1 157 rfl rfl
theorem gw_160 : (Jvm.Cond.fieldLink "PatchStore$Lines" (30 : Nat) "PatchStore$Lines" "ofFile" "[I") ∈ xg_1 := xg_s1 160 rfl rfl
theorem gw_222 : (Jvm.Cond.fieldLink "PatchStore$View" (38 : Nat) "PatchStore$Stock" "changes" "LPatchStore$Changes;") ∈ xg_1 := xg_s1 222 rfl rfl
theorem gw_223 : (Jvm.Cond.fieldLink "PatchStore$Text" (38 : Nat) "PatchStore$Stock" "changes" "LPatchStore$Changes;") ∈ xg_1 := xg_s1 223 rfl rfl
theorem gw_230 : (Jvm.Cond.fieldLink "PatchStore$Text" (45 : Nat) "PatchStore$Stock" "lines" "LPatchStore$Lines;") ∈ xg_1 := xg_s1 230 rfl rfl
theorem gw_279 : (Jvm.Cond.methodLink "PatchStore$Form" (3 : Nat) ({ cls := "java/lang/Object", name := "<init>", desc := "()V" } : Jvm.MethodName)) ∈ xg_1 := xg_s2 39 rfl rfl
theorem gw_280 : (Jvm.Cond.fieldLink "PatchStore$Form" (9 : Nat) "PatchStore$Form" "stock" "LPatchStore$Stock;") ∈ xg_1 := xg_s2 40 rfl rfl
theorem gw_317 : (Jvm.Cond.methodLink "PatchStore$View" (3 : Nat) ({ cls := "java/lang/Object", name := "<init>", desc := "()V" } : Jvm.MethodName)) ∈ xg_1 := xg_s2 77 rfl rfl
theorem gw_318 : (Jvm.Cond.constant "PatchStore$View" (21 : Nat) (38000 : Int32)) ∈ xg_1 := xg_s2 78 rfl rfl
theorem gw_319 : (Jvm.Cond.fieldLink "PatchStore$View" (9 : Nat) "PatchStore$View" "files" "[I") ∈ xg_1 := xg_s2 79 rfl rfl
theorem gw_321 : (Jvm.Cond.fieldLink "PatchStore$View" (15 : Nat) "PatchStore$View" "namingsOf" "[I") ∈ xg_1 := xg_s2 81 rfl rfl
theorem gw_324 : (Jvm.Cond.fieldLink "PatchStore$View" (18 : Nat) "PatchStore$View" "namings" "[I") ∈ xg_1 := xg_s2 84 rfl rfl
theorem gw_330 : (Jvm.Cond.fieldLink "PatchStore$View" (34 : Nat) "PatchStore$View" "stock" "LPatchStore$Stock;") ∈ xg_1 := xg_s2 90 rfl rfl
theorem gw_331 : (Jvm.Cond.fieldLink "PatchStore$View" (44 : Nat) "PatchStore$View" "changes" "LPatchStore$Changes;") ∈ xg_1 := xg_s2 91 rfl rfl
theorem gw_334 : (Jvm.Cond.fieldLink "PatchStore$View" (22 : Nat) "PatchStore$View" "over" "[I") ∈ xg_1 := xg_s2 94 rfl rfl
theorem gw_336 : (Jvm.Cond.fieldLink "PatchStore$View" (25 : Nat) "PatchStore$View" "heads" "[I") ∈ xg_1 := xg_s2 96 rfl rfl
theorem gw_337 : (Jvm.Cond.fieldLink "PatchStore$View" (28 : Nat) "PatchStore$View" "nexts" "[I") ∈ xg_1 := xg_s2 97 rfl rfl
theorem gw_338 : (Jvm.Cond.fieldLink "PatchStore$View" (31 : Nat) "PatchStore$View" "sharing" "[I") ∈ xg_1 := xg_s2 98 rfl rfl
theorem gw_373 : (Jvm.Cond.methodLink "PatchStore$Text" (3 : Nat) ({ cls := "java/lang/Object", name := "<init>", desc := "()V" } : Jvm.MethodName)) ∈ xg_1 := xg_s2 133 rfl rfl
theorem gw_374 : (Jvm.Cond.fieldLink "PatchStore$Text" (9 : Nat) "PatchStore$Text" "order" "[I") ∈ xg_1 := xg_s2 134 rfl rfl
theorem gw_388 : (Jvm.Cond.fieldLink "PatchStore$Text" (34 : Nat) "PatchStore$Text" "stock" "LPatchStore$Stock;") ∈ xg_1 := xg_s2 148 rfl rfl
theorem gw_389 : (Jvm.Cond.fieldLink "PatchStore$Text" (44 : Nat) "PatchStore$Text" "changes" "LPatchStore$Changes;") ∈ xg_1 := xg_s2 149 rfl rfl
theorem gw_390 : (Jvm.Cond.fieldLink "PatchStore$Text" (49 : Nat) "PatchStore$Text" "lines" "LPatchStore$Lines;") ∈ xg_1 := xg_s2 150 rfl rfl
theorem gw_394 : (Jvm.Cond.fieldLink "PatchStore$Text" (15 : Nat) "PatchStore$Text" "rows" "[I") ∈ xg_1 := xg_s2 154 rfl rfl
theorem gw_395 : (Jvm.Cond.fieldLink "PatchStore$Text" (18 : Nat) "PatchStore$Text" "slots" "[I") ∈ xg_1 := xg_s2 155 rfl rfl
theorem gw_397 : (Jvm.Cond.fieldLink "PatchStore$Text" (21 : Nat) "PatchStore$Text" "reach" "[J") ∈ xg_1 := xg_s2 157 rfl rfl
theorem gw_398 : (Jvm.Cond.fieldLink "PatchStore$Text" (25 : Nat) "PatchStore$Text" "deleters" "[J") ∈ xg_1 := xg_s2 158 rfl rfl
theorem gw_399 : (Jvm.Cond.fieldLink "PatchStore$Text" (28 : Nat) "PatchStore$Text" "gone" "[I") ∈ xg_1 := xg_s2 159 rfl rfl
theorem gw_400 : (Jvm.Cond.fieldLink "PatchStore$Text" (31 : Nat) "PatchStore$Text" "waits" "[I") ∈ xg_1 := xg_s2 160 rfl rfl
theorem gw_445 : (Jvm.Cond.methodLink "PatchStore$Maker" (3 : Nat) ({ cls := "java/lang/Object", name := "<init>", desc := "()V" } : Jvm.MethodName)) ∈ xg_1 := xg_s2 205 rfl rfl
theorem gw_446 : (Jvm.Cond.fieldLink "PatchStore$Maker" (18 : Nat) "PatchStore$Maker" "stock" "LPatchStore$Stock;") ∈ xg_1 := xg_s2 206 rfl rfl
theorem gw_447 : (Jvm.Cond.fieldLink "PatchStore$Maker" (9 : Nat) "PatchStore$Maker" "named" "[I") ∈ xg_1 := xg_s2 207 rfl rfl
theorem gw_448 : (Jvm.Cond.fieldLink "PatchStore$Maker" (15 : Nat) "PatchStore$Maker" "places" "[I") ∈ xg_1 := xg_s2 208 rfl rfl
theorem gw_467 : (Jvm.Cond.methodLink "PatchStore$Recording" (3 : Nat) ({ cls := "java/lang/Object", name := "<init>", desc := "()V" } : Jvm.MethodName)) ∈ xg_1 := xg_s2 227 rfl rfl
theorem gw_468 : (Jvm.Cond.constant "PatchStore$Recording" (24 : Nat) (40401 : Int32)) ∈ xg_1 := xg_s2 228 rfl rfl
theorem gw_471 : (Jvm.Cond.fieldLink "PatchStore$Recording" (37 : Nat) "PatchStore$Recording" "stock" "LPatchStore$Stock;") ∈ xg_1 := xg_s2 231 rfl rfl
theorem gw_472 : (Jvm.Cond.fieldLink "PatchStore$Recording" (41 : Nat) "PatchStore$Recording" "text" "LPatchStore$Text;") ∈ xg_1 := xg_s2 232 rfl rfl
theorem gw_473 : (Jvm.Cond.fieldLink "PatchStore$Recording" (45 : Nat) "PatchStore$Recording" "maker" "LPatchStore$Maker;") ∈ xg_1 := xg_s2 233 rfl rfl
theorem gw_474 : (Jvm.Cond.fieldLink "PatchStore$Recording" (49 : Nat) "PatchStore$Recording" "tape" "[B") ∈ xg_1 := xg_s2 234 rfl rfl
theorem gw_477 : (Jvm.Cond.fieldLink "PatchStore$Recording" (9 : Nat) "PatchStore$Recording" "newAt" "[I") ∈ xg_1 := xg_s2 237 rfl rfl
theorem gw_478 : (Jvm.Cond.fieldLink "PatchStore$Recording" (15 : Nat) "PatchStore$Recording" "newLength" "[I") ∈ xg_1 := xg_s2 238 rfl rfl
theorem gw_479 : (Jvm.Cond.fieldLink "PatchStore$Recording" (18 : Nat) "PatchStore$Recording" "sorts" "[I") ∈ xg_1 := xg_s2 239 rfl rfl
theorem gw_480 : (Jvm.Cond.fieldLink "PatchStore$Recording" (21 : Nat) "PatchStore$Recording" "sums" "[I") ∈ xg_1 := xg_s3 0 rfl rfl
theorem gw_481 : (Jvm.Cond.fieldLink "PatchStore$Recording" (25 : Nat) "PatchStore$Recording" "common" "[I") ∈ xg_1 := xg_s3 1 rfl rfl
theorem gw_482 : (Jvm.Cond.fieldLink "PatchStore$Recording" (28 : Nat) "PatchStore$Recording" "deleted" "[I") ∈ xg_1 := xg_s3 2 rfl rfl
theorem gw_484 : (Jvm.Cond.fieldLink "PatchStore$Recording" (31 : Nat) "PatchStore$Recording" "kept" "[I") ∈ xg_1 := xg_s3 4 rfl rfl
theorem gw_485 : (Jvm.Cond.fieldLink "PatchStore$Recording" (34 : Nat) "PatchStore$Recording" "keptNew" "[I") ∈ xg_1 := xg_s3 5 rfl rfl
theorem gw_526 : (Jvm.Cond.methodLink "PatchStore$Repository" (3 : Nat) ({ cls := "java/lang/Object", name := "<init>", desc := "()V" } : Jvm.MethodName)) ∈ xg_1 := xg_s3 46 rfl rfl
theorem gw_527 : (Jvm.Cond.fieldLink "PatchStore$Repository" (9 : Nat) "PatchStore$Repository" "members" "[J") ∈ xg_1 := xg_s3 47 rfl rfl
theorem gw_529 : (Jvm.Cond.fieldLink "PatchStore$Repository" (15 : Nat) "PatchStore$Repository" "digest" "[B") ∈ xg_1 := xg_s3 49 rfl rfl
theorem gw_536 : (Jvm.Cond.fieldLink "PatchStore$Repository" (19 : Nat) "PatchStore$Repository" "digestVersion" "I") ∈ xg_1 := xg_s3 56 rfl rfl
def y_Sh_init : MethodName := ⟨"PatchStore$Sha256", "<init>", "()V"⟩
abbrev c_Sh_init : Cond := (Jvm.Cond.code ({ cls := "PatchStore$Sha256", name := "<init>", desc := "()V" } : Jvm.MethodName) prog_9_method_1_code (1 : Nat) (Option.none : Option Jvm.ClassFile.FieldType))
abbrev ws_Sh_init : List Cond := c_Sh_init :: xg_1
theorem d_Sh_init_0 : decode prog_9_method_1_code 0 = .ok (.aload_n 0, 1) := by decide +kernel
theorem d_Sh_init_1 : decode prog_9_method_1_code 1 = .ok (.invokespecial 3, 3) := by decide +kernel
theorem d_Sh_init_4 : decode prog_9_method_1_code 4 = .ok (.aload_n 0, 1) := by decide +kernel
theorem d_Sh_init_5 : decode prog_9_method_1_code 5 = .ok (.bipush 8, 2) := by decide +kernel
theorem d_Sh_init_7 : decode prog_9_method_1_code 7 = .ok (.newarray .int, 2) := by decide +kernel
theorem d_Sh_init_9 : decode prog_9_method_1_code 9 = .ok (.putfield 9, 3) := by decide +kernel
theorem d_Sh_init_12 : decode prog_9_method_1_code 12 = .ok (.aload_n 0, 1) := by decide +kernel
theorem d_Sh_init_13 : decode prog_9_method_1_code 13 = .ok (.bipush 64, 2) := by decide +kernel
theorem d_Sh_init_15 : decode prog_9_method_1_code 15 = .ok (.newarray .int, 2) := by decide +kernel
theorem d_Sh_init_17 : decode prog_9_method_1_code 17 = .ok (.putfield 15, 3) := by decide +kernel
theorem d_Sh_init_20 : decode prog_9_method_1_code 20 = .ok (.aload_n 0, 1) := by decide +kernel
theorem d_Sh_init_21 : decode prog_9_method_1_code 21 = .ok (.bipush 64, 2) := by decide +kernel
theorem d_Sh_init_23 : decode prog_9_method_1_code 23 = .ok (.newarray .byte, 2) := by decide +kernel
theorem d_Sh_init_25 : decode prog_9_method_1_code 25 = .ok (.putfield 18, 3) := by decide +kernel
theorem d_Sh_init_28 : decode prog_9_method_1_code 28 = .ok (.return_, 1) := by decide +kernel
def y_Re_init : MethodName := ⟨"PatchStore$Repository", "<init>", "()V"⟩
abbrev c_Re_init : Cond := (Jvm.Cond.code ({ cls := "PatchStore$Repository", name := "<init>", desc := "()V" } : Jvm.MethodName) prog_8_method_1_code (1 : Nat) (Option.none : Option Jvm.ClassFile.FieldType))
abbrev ws_Re_init : List Cond := c_Re_init :: xg_1
theorem d_Re_init_0 : decode prog_8_method_1_code 0 = .ok (.aload_n 0, 1) := by decide +kernel
theorem d_Re_init_1 : decode prog_8_method_1_code 1 = .ok (.invokespecial 3, 3) := by decide +kernel
theorem d_Re_init_4 : decode prog_8_method_1_code 4 = .ok (.aload_n 0, 1) := by decide +kernel
theorem d_Re_init_5 : decode prog_8_method_1_code 5 = .ok (.bipush 8, 2) := by decide +kernel
theorem d_Re_init_7 : decode prog_8_method_1_code 7 = .ok (.newarray .long, 2) := by decide +kernel
theorem d_Re_init_9 : decode prog_8_method_1_code 9 = .ok (.putfield 9, 3) := by decide +kernel
theorem d_Re_init_12 : decode prog_8_method_1_code 12 = .ok (.aload_n 0, 1) := by decide +kernel
theorem d_Re_init_13 : decode prog_8_method_1_code 13 = .ok (.bipush 32, 2) := by decide +kernel
theorem d_Re_init_15 : decode prog_8_method_1_code 15 = .ok (.newarray .byte, 2) := by decide +kernel
theorem d_Re_init_17 : decode prog_8_method_1_code 17 = .ok (.putfield 15, 3) := by decide +kernel
theorem d_Re_init_20 : decode prog_8_method_1_code 20 = .ok (.aload_n 0, 1) := by decide +kernel
theorem d_Re_init_21 : decode prog_8_method_1_code 21 = .ok (.iconst (-1), 1) := by decide +kernel
theorem d_Re_init_22 : decode prog_8_method_1_code 22 = .ok (.putfield 19, 3) := by decide +kernel
theorem d_Re_init_25 : decode prog_8_method_1_code 25 = .ok (.return_, 1) := by decide +kernel
def y_Ch_init : MethodName := ⟨"PatchStore$Changes", "<init>", "()V"⟩
abbrev c_Ch_init : Cond := (Jvm.Cond.code ({ cls := "PatchStore$Changes", name := "<init>", desc := "()V" } : Jvm.MethodName) prog_2_method_1_code (1 : Nat) (Option.none : Option Jvm.ClassFile.FieldType))
abbrev ws_Ch_init : List Cond := c_Ch_init :: xg_1
theorem d_Ch_init_0 : decode prog_2_method_1_code 0 = .ok (.aload_n 0, 1) := by decide +kernel
theorem d_Ch_init_1 : decode prog_2_method_1_code 1 = .ok (.invokespecial 3, 3) := by decide +kernel
theorem d_Ch_init_4 : decode prog_2_method_1_code 4 = .ok (.aload_n 0, 1) := by decide +kernel
theorem d_Ch_init_5 : decode prog_2_method_1_code 5 = .ok (.ldc 9, 2) := by decide +kernel
theorem d_Ch_init_7 : decode prog_2_method_1_code 7 = .ok (.newarray .int, 2) := by decide +kernel
theorem d_Ch_init_9 : decode prog_2_method_1_code 9 = .ok (.putfield 10, 3) := by decide +kernel
theorem d_Ch_init_12 : decode prog_2_method_1_code 12 = .ok (.aload_n 0, 1) := by decide +kernel
theorem d_Ch_init_13 : decode prog_2_method_1_code 13 = .ok (.ldc 9, 2) := by decide +kernel
theorem d_Ch_init_15 : decode prog_2_method_1_code 15 = .ok (.newarray .int, 2) := by decide +kernel
theorem d_Ch_init_17 : decode prog_2_method_1_code 17 = .ok (.putfield 16, 3) := by decide +kernel
theorem d_Ch_init_20 : decode prog_2_method_1_code 20 = .ok (.aload_n 0, 1) := by decide +kernel
theorem d_Ch_init_21 : decode prog_2_method_1_code 21 = .ok (.ldc 9, 2) := by decide +kernel
theorem d_Ch_init_23 : decode prog_2_method_1_code 23 = .ok (.newarray .int, 2) := by decide +kernel
theorem d_Ch_init_25 : decode prog_2_method_1_code 25 = .ok (.putfield 19, 3) := by decide +kernel
theorem d_Ch_init_28 : decode prog_2_method_1_code 28 = .ok (.aload_n 0, 1) := by decide +kernel
theorem d_Ch_init_29 : decode prog_2_method_1_code 29 = .ok (.ldc 9, 2) := by decide +kernel
theorem d_Ch_init_31 : decode prog_2_method_1_code 31 = .ok (.newarray .int, 2) := by decide +kernel
theorem d_Ch_init_33 : decode prog_2_method_1_code 33 = .ok (.putfield 22, 3) := by decide +kernel
theorem d_Ch_init_36 : decode prog_2_method_1_code 36 = .ok (.aload_n 0, 1) := by decide +kernel
theorem d_Ch_init_37 : decode prog_2_method_1_code 37 = .ok (.sipush 200, 3) := by decide +kernel
theorem d_Ch_init_40 : decode prog_2_method_1_code 40 = .ok (.newarray .int, 2) := by decide +kernel
theorem d_Ch_init_42 : decode prog_2_method_1_code 42 = .ok (.putfield 25, 3) := by decide +kernel
theorem d_Ch_init_45 : decode prog_2_method_1_code 45 = .ok (.return_, 1) := by decide +kernel
def y_Li_init : MethodName := ⟨"PatchStore$Lines", "<init>", "()V"⟩
abbrev c_Li_init : Cond := (Jvm.Cond.code ({ cls := "PatchStore$Lines", name := "<init>", desc := "()V" } : Jvm.MethodName) prog_5_method_1_code (1 : Nat) (Option.none : Option Jvm.ClassFile.FieldType))
abbrev ws_Li_init : List Cond := c_Li_init :: xg_1
theorem d_Li_init_0 : decode prog_5_method_1_code 0 = .ok (.aload_n 0, 1) := by decide +kernel
theorem d_Li_init_1 : decode prog_5_method_1_code 1 = .ok (.invokespecial 3, 3) := by decide +kernel
theorem d_Li_init_4 : decode prog_5_method_1_code 4 = .ok (.aload_n 0, 1) := by decide +kernel
theorem d_Li_init_5 : decode prog_5_method_1_code 5 = .ok (.sipush 4000, 3) := by decide +kernel
theorem d_Li_init_8 : decode prog_5_method_1_code 8 = .ok (.newarray .int, 2) := by decide +kernel
theorem d_Li_init_10 : decode prog_5_method_1_code 10 = .ok (.putfield 9, 3) := by decide +kernel
theorem d_Li_init_13 : decode prog_5_method_1_code 13 = .ok (.aload_n 0, 1) := by decide +kernel
theorem d_Li_init_14 : decode prog_5_method_1_code 14 = .ok (.sipush 4000, 3) := by decide +kernel
theorem d_Li_init_17 : decode prog_5_method_1_code 17 = .ok (.newarray .int, 2) := by decide +kernel
theorem d_Li_init_19 : decode prog_5_method_1_code 19 = .ok (.putfield 15, 3) := by decide +kernel
theorem d_Li_init_22 : decode prog_5_method_1_code 22 = .ok (.aload_n 0, 1) := by decide +kernel
theorem d_Li_init_23 : decode prog_5_method_1_code 23 = .ok (.sipush 4000, 3) := by decide +kernel
theorem d_Li_init_26 : decode prog_5_method_1_code 26 = .ok (.newarray .int, 2) := by decide +kernel
theorem d_Li_init_28 : decode prog_5_method_1_code 28 = .ok (.putfield 18, 3) := by decide +kernel
theorem d_Li_init_31 : decode prog_5_method_1_code 31 = .ok (.aload_n 0, 1) := by decide +kernel
theorem d_Li_init_32 : decode prog_5_method_1_code 32 = .ok (.sipush 4000, 3) := by decide +kernel
theorem d_Li_init_35 : decode prog_5_method_1_code 35 = .ok (.newarray .int, 2) := by decide +kernel
theorem d_Li_init_37 : decode prog_5_method_1_code 37 = .ok (.putfield 21, 3) := by decide +kernel
theorem d_Li_init_40 : decode prog_5_method_1_code 40 = .ok (.aload_n 0, 1) := by decide +kernel
theorem d_Li_init_41 : decode prog_5_method_1_code 41 = .ok (.sipush 4000, 3) := by decide +kernel
theorem d_Li_init_44 : decode prog_5_method_1_code 44 = .ok (.newarray .int, 2) := by decide +kernel
theorem d_Li_init_46 : decode prog_5_method_1_code 46 = .ok (.putfield 24, 3) := by decide +kernel
theorem d_Li_init_49 : decode prog_5_method_1_code 49 = .ok (.aload_n 0, 1) := by decide +kernel
theorem d_Li_init_50 : decode prog_5_method_1_code 50 = .ok (.sipush 4000, 3) := by decide +kernel
theorem d_Li_init_53 : decode prog_5_method_1_code 53 = .ok (.newarray .int, 2) := by decide +kernel
theorem d_Li_init_55 : decode prog_5_method_1_code 55 = .ok (.putfield 27, 3) := by decide +kernel
theorem d_Li_init_58 : decode prog_5_method_1_code 58 = .ok (.aload_n 0, 1) := by decide +kernel
theorem d_Li_init_59 : decode prog_5_method_1_code 59 = .ok (.sipush 200, 3) := by decide +kernel
theorem d_Li_init_62 : decode prog_5_method_1_code 62 = .ok (.newarray .int, 2) := by decide +kernel
theorem d_Li_init_64 : decode prog_5_method_1_code 64 = .ok (.putfield 30, 3) := by decide +kernel
theorem d_Li_init_67 : decode prog_5_method_1_code 67 = .ok (.return_, 1) := by decide +kernel
def y_Fo_init : MethodName := ⟨"PatchStore$Form", "<init>", "(LPatchStore$Stock;)V"⟩
abbrev c_Fo_init : Cond := (Jvm.Cond.code ({ cls := "PatchStore$Form", name := "<init>", desc := "(LPatchStore$Stock;)V" } : Jvm.MethodName) prog_3_method_1_code (2 : Nat) (Option.none : Option Jvm.ClassFile.FieldType))
abbrev ws_Fo_init : List Cond := c_Fo_init :: xg_1
theorem d_Fo_init_0 : decode prog_3_method_1_code 0 = .ok (.aload_n 0, 1) := by decide +kernel
theorem d_Fo_init_1 : decode prog_3_method_1_code 1 = .ok (.invokespecial 3, 3) := by decide +kernel
theorem d_Fo_init_4 : decode prog_3_method_1_code 4 = .ok (.aload_n 0, 1) := by decide +kernel
theorem d_Fo_init_5 : decode prog_3_method_1_code 5 = .ok (.aload_n 1, 1) := by decide +kernel
theorem d_Fo_init_6 : decode prog_3_method_1_code 6 = .ok (.putfield 9, 3) := by decide +kernel
theorem d_Fo_init_9 : decode prog_3_method_1_code 9 = .ok (.return_, 1) := by decide +kernel
def y_Mk_init : MethodName := ⟨"PatchStore$Maker", "<init>", "(LPatchStore$Stock;)V"⟩
abbrev c_Mk_init : Cond := (Jvm.Cond.code ({ cls := "PatchStore$Maker", name := "<init>", desc := "(LPatchStore$Stock;)V" } : Jvm.MethodName) prog_6_method_1_code (2 : Nat) (Option.none : Option Jvm.ClassFile.FieldType))
abbrev ws_Mk_init : List Cond := c_Mk_init :: xg_1
theorem d_Mk_init_0 : decode prog_6_method_1_code 0 = .ok (.aload_n 0, 1) := by decide +kernel
theorem d_Mk_init_1 : decode prog_6_method_1_code 1 = .ok (.invokespecial 3, 3) := by decide +kernel
theorem d_Mk_init_4 : decode prog_6_method_1_code 4 = .ok (.aload_n 0, 1) := by decide +kernel
theorem d_Mk_init_5 : decode prog_6_method_1_code 5 = .ok (.sipush 500, 3) := by decide +kernel
theorem d_Mk_init_8 : decode prog_6_method_1_code 8 = .ok (.newarray .int, 2) := by decide +kernel
theorem d_Mk_init_10 : decode prog_6_method_1_code 10 = .ok (.putfield 9, 3) := by decide +kernel
theorem d_Mk_init_13 : decode prog_6_method_1_code 13 = .ok (.aload_n 0, 1) := by decide +kernel
theorem d_Mk_init_14 : decode prog_6_method_1_code 14 = .ok (.sipush 500, 3) := by decide +kernel
theorem d_Mk_init_17 : decode prog_6_method_1_code 17 = .ok (.newarray .int, 2) := by decide +kernel
theorem d_Mk_init_19 : decode prog_6_method_1_code 19 = .ok (.putfield 15, 3) := by decide +kernel
theorem d_Mk_init_22 : decode prog_6_method_1_code 22 = .ok (.aload_n 0, 1) := by decide +kernel
theorem d_Mk_init_23 : decode prog_6_method_1_code 23 = .ok (.aload_n 1, 1) := by decide +kernel
theorem d_Mk_init_24 : decode prog_6_method_1_code 24 = .ok (.putfield 18, 3) := by decide +kernel
theorem d_Mk_init_27 : decode prog_6_method_1_code 27 = .ok (.return_, 1) := by decide +kernel
def y_Vw_init : MethodName := ⟨"PatchStore$View", "<init>", "(LPatchStore$Stock;)V"⟩
abbrev c_Vw_init : Cond := (Jvm.Cond.code ({ cls := "PatchStore$View", name := "<init>", desc := "(LPatchStore$Stock;)V" } : Jvm.MethodName) prog_12_method_1_code (2 : Nat) (Option.none : Option Jvm.ClassFile.FieldType))
abbrev ws_Vw_init : List Cond := c_Vw_init :: xg_1
theorem d_Vw_init_0 : decode prog_12_method_1_code 0 = .ok (.aload_n 0, 1) := by decide +kernel
theorem d_Vw_init_1 : decode prog_12_method_1_code 1 = .ok (.invokespecial 3, 3) := by decide +kernel
theorem d_Vw_init_4 : decode prog_12_method_1_code 4 = .ok (.aload_n 0, 1) := by decide +kernel
theorem d_Vw_init_5 : decode prog_12_method_1_code 5 = .ok (.sipush 200, 3) := by decide +kernel
theorem d_Vw_init_8 : decode prog_12_method_1_code 8 = .ok (.newarray .int, 2) := by decide +kernel
theorem d_Vw_init_10 : decode prog_12_method_1_code 10 = .ok (.putfield 9, 3) := by decide +kernel
theorem d_Vw_init_13 : decode prog_12_method_1_code 13 = .ok (.aload_n 0, 1) := by decide +kernel
theorem d_Vw_init_14 : decode prog_12_method_1_code 14 = .ok (.sipush 200, 3) := by decide +kernel
theorem d_Vw_init_17 : decode prog_12_method_1_code 17 = .ok (.newarray .int, 2) := by decide +kernel
theorem d_Vw_init_19 : decode prog_12_method_1_code 19 = .ok (.putfield 15, 3) := by decide +kernel
theorem d_Vw_init_22 : decode prog_12_method_1_code 22 = .ok (.aload_n 0, 1) := by decide +kernel
theorem d_Vw_init_23 : decode prog_12_method_1_code 23 = .ok (.sipush 16800, 3) := by decide +kernel
theorem d_Vw_init_26 : decode prog_12_method_1_code 26 = .ok (.newarray .int, 2) := by decide +kernel
theorem d_Vw_init_28 : decode prog_12_method_1_code 28 = .ok (.putfield 18, 3) := by decide +kernel
theorem d_Vw_init_31 : decode prog_12_method_1_code 31 = .ok (.aload_n 0, 1) := by decide +kernel
theorem d_Vw_init_32 : decode prog_12_method_1_code 32 = .ok (.ldc 21, 2) := by decide +kernel
theorem d_Vw_init_34 : decode prog_12_method_1_code 34 = .ok (.newarray .int, 2) := by decide +kernel
theorem d_Vw_init_36 : decode prog_12_method_1_code 36 = .ok (.putfield 22, 3) := by decide +kernel
theorem d_Vw_init_39 : decode prog_12_method_1_code 39 = .ok (.aload_n 0, 1) := by decide +kernel
theorem d_Vw_init_40 : decode prog_12_method_1_code 40 = .ok (.sipush 256, 3) := by decide +kernel
theorem d_Vw_init_43 : decode prog_12_method_1_code 43 = .ok (.newarray .int, 2) := by decide +kernel
theorem d_Vw_init_45 : decode prog_12_method_1_code 45 = .ok (.putfield 25, 3) := by decide +kernel
theorem d_Vw_init_48 : decode prog_12_method_1_code 48 = .ok (.aload_n 0, 1) := by decide +kernel
theorem d_Vw_init_49 : decode prog_12_method_1_code 49 = .ok (.sipush 16800, 3) := by decide +kernel
theorem d_Vw_init_52 : decode prog_12_method_1_code 52 = .ok (.newarray .int, 2) := by decide +kernel
theorem d_Vw_init_54 : decode prog_12_method_1_code 54 = .ok (.putfield 28, 3) := by decide +kernel
theorem d_Vw_init_57 : decode prog_12_method_1_code 57 = .ok (.aload_n 0, 1) := by decide +kernel
theorem d_Vw_init_58 : decode prog_12_method_1_code 58 = .ok (.sipush 200, 3) := by decide +kernel
theorem d_Vw_init_61 : decode prog_12_method_1_code 61 = .ok (.newarray .int, 2) := by decide +kernel
theorem d_Vw_init_63 : decode prog_12_method_1_code 63 = .ok (.putfield 31, 3) := by decide +kernel
theorem d_Vw_init_66 : decode prog_12_method_1_code 66 = .ok (.aload_n 0, 1) := by decide +kernel
theorem d_Vw_init_67 : decode prog_12_method_1_code 67 = .ok (.aload_n 1, 1) := by decide +kernel
theorem d_Vw_init_68 : decode prog_12_method_1_code 68 = .ok (.putfield 34, 3) := by decide +kernel
theorem d_Vw_init_71 : decode prog_12_method_1_code 71 = .ok (.aload_n 0, 1) := by decide +kernel
theorem d_Vw_init_72 : decode prog_12_method_1_code 72 = .ok (.aload_n 1, 1) := by decide +kernel
theorem d_Vw_init_73 : decode prog_12_method_1_code 73 = .ok (.getfield 38, 3) := by decide +kernel
theorem d_Vw_init_76 : decode prog_12_method_1_code 76 = .ok (.putfield 44, 3) := by decide +kernel
theorem d_Vw_init_79 : decode prog_12_method_1_code 79 = .ok (.return_, 1) := by decide +kernel
def y_Tx_init : MethodName := ⟨"PatchStore$Text", "<init>", "(LPatchStore$Stock;)V"⟩
abbrev c_Tx_init : Cond := (Jvm.Cond.code ({ cls := "PatchStore$Text", name := "<init>", desc := "(LPatchStore$Stock;)V" } : Jvm.MethodName) prog_11_method_1_code (2 : Nat) (Option.none : Option Jvm.ClassFile.FieldType))
abbrev ws_Tx_init : List Cond := c_Tx_init :: xg_1
theorem d_Tx_init_0 : decode prog_11_method_1_code 0 = .ok (.aload_n 0, 1) := by decide +kernel
theorem d_Tx_init_1 : decode prog_11_method_1_code 1 = .ok (.invokespecial 3, 3) := by decide +kernel
theorem d_Tx_init_4 : decode prog_11_method_1_code 4 = .ok (.aload_n 0, 1) := by decide +kernel
theorem d_Tx_init_5 : decode prog_11_method_1_code 5 = .ok (.sipush 400, 3) := by decide +kernel
theorem d_Tx_init_8 : decode prog_11_method_1_code 8 = .ok (.newarray .int, 2) := by decide +kernel
theorem d_Tx_init_10 : decode prog_11_method_1_code 10 = .ok (.putfield 9, 3) := by decide +kernel
theorem d_Tx_init_13 : decode prog_11_method_1_code 13 = .ok (.aload_n 0, 1) := by decide +kernel
theorem d_Tx_init_14 : decode prog_11_method_1_code 14 = .ok (.sipush 400, 3) := by decide +kernel
theorem d_Tx_init_17 : decode prog_11_method_1_code 17 = .ok (.newarray .int, 2) := by decide +kernel
theorem d_Tx_init_19 : decode prog_11_method_1_code 19 = .ok (.putfield 15, 3) := by decide +kernel
theorem d_Tx_init_22 : decode prog_11_method_1_code 22 = .ok (.aload_n 0, 1) := by decide +kernel
theorem d_Tx_init_23 : decode prog_11_method_1_code 23 = .ok (.sipush 4000, 3) := by decide +kernel
theorem d_Tx_init_26 : decode prog_11_method_1_code 26 = .ok (.newarray .int, 2) := by decide +kernel
theorem d_Tx_init_28 : decode prog_11_method_1_code 28 = .ok (.putfield 18, 3) := by decide +kernel
theorem d_Tx_init_31 : decode prog_11_method_1_code 31 = .ok (.aload_n 0, 1) := by decide +kernel
theorem d_Tx_init_32 : decode prog_11_method_1_code 32 = .ok (.sipush 2800, 3) := by decide +kernel
theorem d_Tx_init_35 : decode prog_11_method_1_code 35 = .ok (.newarray .long, 2) := by decide +kernel
theorem d_Tx_init_37 : decode prog_11_method_1_code 37 = .ok (.putfield 21, 3) := by decide +kernel
theorem d_Tx_init_40 : decode prog_11_method_1_code 40 = .ok (.aload_n 0, 1) := by decide +kernel
theorem d_Tx_init_41 : decode prog_11_method_1_code 41 = .ok (.sipush 3200, 3) := by decide +kernel
theorem d_Tx_init_44 : decode prog_11_method_1_code 44 = .ok (.newarray .long, 2) := by decide +kernel
theorem d_Tx_init_46 : decode prog_11_method_1_code 46 = .ok (.putfield 25, 3) := by decide +kernel
theorem d_Tx_init_49 : decode prog_11_method_1_code 49 = .ok (.aload_n 0, 1) := by decide +kernel
theorem d_Tx_init_50 : decode prog_11_method_1_code 50 = .ok (.sipush 400, 3) := by decide +kernel
theorem d_Tx_init_53 : decode prog_11_method_1_code 53 = .ok (.newarray .int, 2) := by decide +kernel
theorem d_Tx_init_55 : decode prog_11_method_1_code 55 = .ok (.putfield 28, 3) := by decide +kernel
theorem d_Tx_init_58 : decode prog_11_method_1_code 58 = .ok (.aload_n 0, 1) := by decide +kernel
theorem d_Tx_init_59 : decode prog_11_method_1_code 59 = .ok (.sipush 400, 3) := by decide +kernel
theorem d_Tx_init_62 : decode prog_11_method_1_code 62 = .ok (.newarray .int, 2) := by decide +kernel
theorem d_Tx_init_64 : decode prog_11_method_1_code 64 = .ok (.putfield 31, 3) := by decide +kernel
theorem d_Tx_init_67 : decode prog_11_method_1_code 67 = .ok (.aload_n 0, 1) := by decide +kernel
theorem d_Tx_init_68 : decode prog_11_method_1_code 68 = .ok (.aload_n 1, 1) := by decide +kernel
theorem d_Tx_init_69 : decode prog_11_method_1_code 69 = .ok (.putfield 34, 3) := by decide +kernel
theorem d_Tx_init_72 : decode prog_11_method_1_code 72 = .ok (.aload_n 0, 1) := by decide +kernel
theorem d_Tx_init_73 : decode prog_11_method_1_code 73 = .ok (.aload_n 1, 1) := by decide +kernel
theorem d_Tx_init_74 : decode prog_11_method_1_code 74 = .ok (.getfield 38, 3) := by decide +kernel
theorem d_Tx_init_77 : decode prog_11_method_1_code 77 = .ok (.putfield 44, 3) := by decide +kernel
theorem d_Tx_init_80 : decode prog_11_method_1_code 80 = .ok (.aload_n 0, 1) := by decide +kernel
theorem d_Tx_init_81 : decode prog_11_method_1_code 81 = .ok (.aload_n 1, 1) := by decide +kernel
theorem d_Tx_init_82 : decode prog_11_method_1_code 82 = .ok (.getfield 45, 3) := by decide +kernel
theorem d_Tx_init_85 : decode prog_11_method_1_code 85 = .ok (.putfield 49, 3) := by decide +kernel
theorem d_Tx_init_88 : decode prog_11_method_1_code 88 = .ok (.return_, 1) := by decide +kernel
def y_Rc_init : MethodName := ⟨"PatchStore$Recording", "<init>", "(LPatchStore$Stock;LPatchStore$Text;LPatchStore$Maker;[B)V"⟩
abbrev c_Rc_init : Cond := (Jvm.Cond.code ({ cls := "PatchStore$Recording", name := "<init>", desc := "(LPatchStore$Stock;LPatchStore$Text;LPatchStore$Maker;[B)V" } : Jvm.MethodName) prog_7_method_1_code (5 : Nat) (Option.none : Option Jvm.ClassFile.FieldType))
abbrev ws_Rc_init : List Cond := c_Rc_init :: xg_1
theorem d_Rc_init_0 : decode prog_7_method_1_code 0 = .ok (.aload_n 0, 1) := by decide +kernel
theorem d_Rc_init_1 : decode prog_7_method_1_code 1 = .ok (.invokespecial 3, 3) := by decide +kernel
theorem d_Rc_init_4 : decode prog_7_method_1_code 4 = .ok (.aload_n 0, 1) := by decide +kernel
theorem d_Rc_init_5 : decode prog_7_method_1_code 5 = .ok (.sipush 200, 3) := by decide +kernel
theorem d_Rc_init_8 : decode prog_7_method_1_code 8 = .ok (.newarray .int, 2) := by decide +kernel
theorem d_Rc_init_10 : decode prog_7_method_1_code 10 = .ok (.putfield 9, 3) := by decide +kernel
theorem d_Rc_init_13 : decode prog_7_method_1_code 13 = .ok (.aload_n 0, 1) := by decide +kernel
theorem d_Rc_init_14 : decode prog_7_method_1_code 14 = .ok (.sipush 200, 3) := by decide +kernel
theorem d_Rc_init_17 : decode prog_7_method_1_code 17 = .ok (.newarray .int, 2) := by decide +kernel
theorem d_Rc_init_19 : decode prog_7_method_1_code 19 = .ok (.putfield 15, 3) := by decide +kernel
theorem d_Rc_init_22 : decode prog_7_method_1_code 22 = .ok (.aload_n 0, 1) := by decide +kernel
theorem d_Rc_init_23 : decode prog_7_method_1_code 23 = .ok (.sipush 400, 3) := by decide +kernel
theorem d_Rc_init_26 : decode prog_7_method_1_code 26 = .ok (.newarray .int, 2) := by decide +kernel
theorem d_Rc_init_28 : decode prog_7_method_1_code 28 = .ok (.putfield 18, 3) := by decide +kernel
theorem d_Rc_init_31 : decode prog_7_method_1_code 31 = .ok (.aload_n 0, 1) := by decide +kernel
theorem d_Rc_init_32 : decode prog_7_method_1_code 32 = .ok (.sipush 400, 3) := by decide +kernel
theorem d_Rc_init_35 : decode prog_7_method_1_code 35 = .ok (.newarray .int, 2) := by decide +kernel
theorem d_Rc_init_37 : decode prog_7_method_1_code 37 = .ok (.putfield 21, 3) := by decide +kernel
theorem d_Rc_init_40 : decode prog_7_method_1_code 40 = .ok (.aload_n 0, 1) := by decide +kernel
theorem d_Rc_init_41 : decode prog_7_method_1_code 41 = .ok (.ldc 24, 2) := by decide +kernel
theorem d_Rc_init_43 : decode prog_7_method_1_code 43 = .ok (.newarray .int, 2) := by decide +kernel
theorem d_Rc_init_45 : decode prog_7_method_1_code 45 = .ok (.putfield 25, 3) := by decide +kernel
theorem d_Rc_init_48 : decode prog_7_method_1_code 48 = .ok (.aload_n 0, 1) := by decide +kernel
theorem d_Rc_init_49 : decode prog_7_method_1_code 49 = .ok (.sipush 200, 3) := by decide +kernel
theorem d_Rc_init_52 : decode prog_7_method_1_code 52 = .ok (.newarray .int, 2) := by decide +kernel
theorem d_Rc_init_54 : decode prog_7_method_1_code 54 = .ok (.putfield 28, 3) := by decide +kernel
theorem d_Rc_init_57 : decode prog_7_method_1_code 57 = .ok (.aload_n 0, 1) := by decide +kernel
theorem d_Rc_init_58 : decode prog_7_method_1_code 58 = .ok (.sipush 200, 3) := by decide +kernel
theorem d_Rc_init_61 : decode prog_7_method_1_code 61 = .ok (.newarray .int, 2) := by decide +kernel
theorem d_Rc_init_63 : decode prog_7_method_1_code 63 = .ok (.putfield 31, 3) := by decide +kernel
theorem d_Rc_init_66 : decode prog_7_method_1_code 66 = .ok (.aload_n 0, 1) := by decide +kernel
theorem d_Rc_init_67 : decode prog_7_method_1_code 67 = .ok (.sipush 200, 3) := by decide +kernel
theorem d_Rc_init_70 : decode prog_7_method_1_code 70 = .ok (.newarray .int, 2) := by decide +kernel
theorem d_Rc_init_72 : decode prog_7_method_1_code 72 = .ok (.putfield 34, 3) := by decide +kernel
theorem d_Rc_init_75 : decode prog_7_method_1_code 75 = .ok (.aload_n 0, 1) := by decide +kernel
theorem d_Rc_init_76 : decode prog_7_method_1_code 76 = .ok (.aload_n 1, 1) := by decide +kernel
theorem d_Rc_init_77 : decode prog_7_method_1_code 77 = .ok (.putfield 37, 3) := by decide +kernel
theorem d_Rc_init_80 : decode prog_7_method_1_code 80 = .ok (.aload_n 0, 1) := by decide +kernel
theorem d_Rc_init_81 : decode prog_7_method_1_code 81 = .ok (.aload_n 2, 1) := by decide +kernel
theorem d_Rc_init_82 : decode prog_7_method_1_code 82 = .ok (.putfield 41, 3) := by decide +kernel
theorem d_Rc_init_85 : decode prog_7_method_1_code 85 = .ok (.aload_n 0, 1) := by decide +kernel
theorem d_Rc_init_86 : decode prog_7_method_1_code 86 = .ok (.aload_n 3, 1) := by decide +kernel
theorem d_Rc_init_87 : decode prog_7_method_1_code 87 = .ok (.putfield 45, 3) := by decide +kernel
theorem d_Rc_init_90 : decode prog_7_method_1_code 90 = .ok (.aload_n 0, 1) := by decide +kernel
theorem d_Rc_init_91 : decode prog_7_method_1_code 91 = .ok (.aload 4, 2) := by decide +kernel
theorem d_Rc_init_93 : decode prog_7_method_1_code 93 = .ok (.putfield 49, 3) := by decide +kernel
theorem d_Rc_init_96 : decode prog_7_method_1_code 96 = .ok (.return_, 1) := by decide +kernel
theorem xk_u {D : va_G} {cl : List vw_C} {tys : List (ClassId × FieldType)} {U : State} {c c2 : ClassId} {ty : FieldType} (i j : Nat) (hK : va_K D cl tys U) (h1 : tys[i]? = some (c, ty)) (h2 : tys[j]? = some (c2, ty)) : c = c2 := by
  have a := (hK.2 i _ h1).2
  have b := (hK.2 j _ h2).2
  cases ty with
  | object C =>
    obtain ⟨-, -, -, -, -, e1⟩ := a
    obtain ⟨-, -, -, -, -, e2⟩ := b
    exact Option.some.inj (e1.symm.trans e2)
  | _ => exact Option.some.inj (a.symm.trans b)
set_option maxHeartbeats 4000000 in
set_option maxRecDepth 100000 in
/-- m_Sh_init -/
theorem m_Sh_init (l : Launch) (dC : Nat → ClassId) (dI : Nat → Nat → Nat) (cI cB cL cZ cR : ClassId) (h : Nat)  (sz : Nat) : Met l y_Sh_init ws_Sh_init ({ frames := 1, cells := 3, slots := 136, locals := 60 }) (xw_Px dC dI [(cI, .int), (cB, .byte), (cL, .long), (cZ, .boolean), (cR, .object "PatchStore$Repository")] [.ref h] [(h, .inr (8, [.null, .null, .null, .int 0, .int 0]))] sz) (va_Qv (fun _ : Nat × Nat × Nat => True) (fun u t => xw_B dC dI [(cI, .int), (cB, .byte), (cL, .long), (cZ, .boolean), (cR, .object "PatchStore$Repository")] (va_A [(h, .inr (8, [.null, .null, .null, .int 0, .int 0]))] sz) [(h, .inr (8, [.ref u.1, .ref u.2.1, .ref u.2.2, .int 0, .int 0])), (u.1, .inl (cI, 8, .inl (fun _ => 0))), (u.2.1, .inl (cI, 64, .inl (fun _ => 0))), (u.2.2, .inl (cB, 64, .inl (fun _ => 0)))] t) (va_A [(h, .inr (8, [.null, .null, .null, .int 0, .int 0]))] sz)) 3 136 (va_A [(h, .inr (8, [.null, .null, .null, .int 0, .int 0]))] sz) := by
  refine Met.ofW (cc := prog_9_method_1_code) (maxL := 1) (ret := none) (by decide) rfl ?_
  intro p e s m args below meth c s₁ B hml hv
  obtain ⟨rfl, hsz, hP, hK, hD0, hN, hTh⟩ := hv
  have hx := B.exec
  have hb := B.bytes
  have hr := B.returns
  have hts0 := atoms_spec (ws := ws_Sh_init) B.pre
  have hts : ∀ w ∈ xg_1, w.before _ s = true := fun w h => hts0 w (List.mem_cons_of_mem _ h)
  have hown : s.vm.findClass "PatchStore$Sha256" = some m.cls := findClass_of_methodNamed B.named
  have hlocks := B.notSynchronized
  have hin : meth.name = "<init>" := (name_of_methodNamed B.named B.method).1
  subst hsz
  have hD := hD0.self (sz := s.heap.size)
  generalize hAe : va_A [(h, .inr (8, [.null, .null, .null, .int 0, .int 0]))] s.heap.size = A at hD hTh ⊢
  have hA : ∀ q : Nat, s.heap.size ≤ q → A q := fun q h => by rw [← hAe]; exact Or.inr h
  have hS : va_S A s.heap s.heap [] := va_S.rf
  have hl := lv_entry ([.ref h]) (n := 1) (Nat.le_of_ble_eq_true rfl)
  rw [lg_entry_eq]
  generalize (lg_sl ([.ref h]) ++ List.replicate (1 - (lg_sl ([.ref h])).length) Slot.unset).toArray = ls at hl ⊢
  have hl : lv_has ls 1 [(0, .ref h)] := hl
  refine lv_aload_n hx hb d_Sh_init_0 rfl (lv_at hl 0 rfl) ?_
  refine W.objInit hx hb hown (hts _ gw_53) (hts _ gw_43) (hts _ gw_44) rfl (by rw [hml]; exact hl.1) rfl d_Sh_init_1 (Nat.le_of_ble_eq_true rfl) (Nat.le_of_ble_eq_true rfl) ?_
  refine W.eq (g2 := F0 m 4 ls []) rfl ?_
  refine lv_aload_n hx hb d_Sh_init_4 rfl (lv_at hl 0 rfl) ?_
  refine lv_bipush (v := 8) hx hb d_Sh_init_5 (by decide) ?_
  refine va_newa (atype := .int) (ty := .int) (a0 := (8, .inl (fun _ => 0))) hx hb (hts _ gw_71) rfl hK hP hD hS hA (fun _ => rfl) (by decide) (N' := 8) (by decide) (by decide) (Nat.le_of_ble_eq_true rfl) (Nat.le_of_ble_eq_true rfl) d_Sh_init_7 (fun q7 cA H hK hP hD hS => ?_)
  obtain rfl : cI = cA := (xk_u 5 0 hK rfl rfl).symm
  have hK := hK.sub (tys' := [(cI, .int), (cB, .byte), (cL, .long), (cZ, .boolean), (cR, .object "PatchStore$Repository")]) [0, 1, 2, 3, 4] rfl
  have hP : va_P (dC, dI) classes [(h, .inr (8, [.null, .null, .null, .int 0, .int 0])), (q7, .inl (cI, 8, .inl (fun _ => 0)))] H := hP
  have hD : va_D A [(h, .inr (8, [.null, .null, .null, .int 0, .int 0])), (q7, .inl (cI, 8, .inl (fun _ => 0)))] := hD
  refine W.widen (k := 1) (n := 8) (Nat.le_of_ble_eq_true rfl) (Nat.le_of_ble_eq_true rfl) ?_
  refine va_putF (D := (dC, dI)) (ci := 8) (v := .ref q7) (ty := .array .int) (C := R_Sh) (T := F_Sh) (N := 5) hx hb hts i_Sh t_Sh t_Sh_ok n_Sh hown hK hP hD hS 0 rfl rfl 0 (by decide) (hts _ gw_54) (fun _ h9 => h9) rfl hin rfl (by decide +kernel) rfl rfl (Nat.le_of_ble_eq_true rfl) d_Sh_init_9 (fun H locs hP hD hS => ?_)
  have hP : va_P (dC, dI) classes [(h, .inr (8, [.ref q7, .null, .null, .int 0, .int 0])), (q7, .inl (cI, 8, .inl (fun _ => 0)))] H := hP
  have hD : va_D A [(h, .inr (8, [.ref q7, .null, .null, .int 0, .int 0])), (q7, .inl (cI, 8, .inl (fun _ => 0)))] := hD
  refine lv_aload_n hx hb d_Sh_init_12 rfl (lv_at hl 0 rfl) ?_
  refine lv_bipush (v := 64) hx hb d_Sh_init_13 (by decide) ?_
  refine va_newa (atype := .int) (ty := .int) (a0 := (64, .inl (fun _ => 0))) hx hb (hts _ gw_71) rfl hK hP hD hS hA (fun _ => rfl) (by decide) (N' := 64) (by decide) (by decide) (Nat.le_of_ble_eq_true rfl) (Nat.le_of_ble_eq_true rfl) d_Sh_init_15 (fun q15 cA H hK hP hD hS => ?_)
  obtain rfl : cI = cA := (xk_u 5 0 hK rfl rfl).symm
  have hK := hK.sub (tys' := [(cI, .int), (cB, .byte), (cL, .long), (cZ, .boolean), (cR, .object "PatchStore$Repository")]) [0, 1, 2, 3, 4] rfl
  have hP : va_P (dC, dI) classes [(h, .inr (8, [.ref q7, .null, .null, .int 0, .int 0])), (q7, .inl (cI, 8, .inl (fun _ => 0))), (q15, .inl (cI, 64, .inl (fun _ => 0)))] H := hP
  have hD : va_D A [(h, .inr (8, [.ref q7, .null, .null, .int 0, .int 0])), (q7, .inl (cI, 8, .inl (fun _ => 0))), (q15, .inl (cI, 64, .inl (fun _ => 0)))] := hD
  refine W.widen (k := 2) (n := 72) (Nat.le_of_ble_eq_true rfl) (Nat.le_of_ble_eq_true rfl) ?_
  refine va_putF (D := (dC, dI)) (ci := 8) (v := .ref q15) (ty := .array .int) (C := R_Sh) (T := F_Sh) (N := 5) hx hb hts i_Sh t_Sh t_Sh_ok n_Sh hown hK hP hD hS 0 rfl rfl 1 (by decide) (hts _ gw_55) (fun _ h9 => h9) rfl hin rfl (by decide +kernel) rfl rfl (Nat.le_of_ble_eq_true rfl) d_Sh_init_17 (fun H locs hP hD hS => ?_)
  have hP : va_P (dC, dI) classes [(h, .inr (8, [.ref q7, .ref q15, .null, .int 0, .int 0])), (q7, .inl (cI, 8, .inl (fun _ => 0))), (q15, .inl (cI, 64, .inl (fun _ => 0)))] H := hP
  have hD : va_D A [(h, .inr (8, [.ref q7, .ref q15, .null, .int 0, .int 0])), (q7, .inl (cI, 8, .inl (fun _ => 0))), (q15, .inl (cI, 64, .inl (fun _ => 0)))] := hD
  refine lv_aload_n hx hb d_Sh_init_20 rfl (lv_at hl 0 rfl) ?_
  refine lv_bipush (v := 64) hx hb d_Sh_init_21 (by decide) ?_
  refine va_newa (atype := .byte) (ty := .byte) (a0 := (64, .inl (fun _ => 0))) hx hb (hts _ gw_70) rfl hK hP hD hS hA (fun _ => rfl) (by decide) (N' := 64) (by decide) (by decide) (Nat.le_of_ble_eq_true rfl) (Nat.le_of_ble_eq_true rfl) d_Sh_init_23 (fun q23 cA H hK hP hD hS => ?_)
  obtain rfl : cB = cA := (xk_u 5 1 hK rfl rfl).symm
  have hK := hK.sub (tys' := [(cI, .int), (cB, .byte), (cL, .long), (cZ, .boolean), (cR, .object "PatchStore$Repository")]) [0, 1, 2, 3, 4] rfl
  have hP : va_P (dC, dI) classes [(h, .inr (8, [.ref q7, .ref q15, .null, .int 0, .int 0])), (q7, .inl (cI, 8, .inl (fun _ => 0))), (q15, .inl (cI, 64, .inl (fun _ => 0))), (q23, .inl (cB, 64, .inl (fun _ => 0)))] H := hP
  have hD : va_D A [(h, .inr (8, [.ref q7, .ref q15, .null, .int 0, .int 0])), (q7, .inl (cI, 8, .inl (fun _ => 0))), (q15, .inl (cI, 64, .inl (fun _ => 0))), (q23, .inl (cB, 64, .inl (fun _ => 0)))] := hD
  refine W.widen (k := 3) (n := 136) (Nat.le_of_ble_eq_true rfl) (Nat.le_of_ble_eq_true rfl) ?_
  refine va_putF (D := (dC, dI)) (ci := 8) (v := .ref q23) (ty := .array .byte) (C := R_Sh) (T := F_Sh) (N := 5) hx hb hts i_Sh t_Sh t_Sh_ok n_Sh hown hK hP hD hS 0 rfl rfl 2 (by decide) (hts _ gw_56) (fun _ h9 => h9) rfl hin rfl (by decide +kernel) rfl rfl (Nat.le_of_ble_eq_true rfl) d_Sh_init_25 (fun H locs hP hD hS => ?_)
  have hP : va_P (dC, dI) classes [(h, .inr (8, [.ref q7, .ref q15, .ref q23, .int 0, .int 0])), (q7, .inl (cI, 8, .inl (fun _ => 0))), (q15, .inl (cI, 64, .inl (fun _ => 0))), (q23, .inl (cB, 64, .inl (fun _ => 0)))] H := hP
  have hD : va_D A [(h, .inr (8, [.ref q7, .ref q15, .ref q23, .int 0, .int 0])), (q7, .inl (cI, 8, .inl (fun _ => 0))), (q15, .inl (cI, 64, .inl (fun _ => 0))), (q23, .inl (cB, 64, .inl (fun _ => 0)))] := hD
  exact W.vret hx hb hr (fun t ht hW => ⟨⟨(q7, q15, q23), rfl, trivial, by rw [ht]; exact hP, va_K.moved hW.alike hK, hD⟩, hS.F ht⟩) hS.2.2 d_Sh_init_28
set_option maxHeartbeats 4000000 in
set_option maxRecDepth 100000 in
/-- m_Re_init -/
theorem m_Re_init (l : Launch) (dC : Nat → ClassId) (dI : Nat → Nat → Nat) (cI cB cL cZ cR : ClassId) (h : Nat)  (sz : Nat) : Met l y_Re_init ws_Re_init ({ frames := 1, cells := 2, slots := 40, locals := 60 }) (xw_Px dC dI [(cI, .int), (cB, .byte), (cL, .long), (cZ, .boolean), (cR, .object "PatchStore$Repository")] [.ref h] [(h, .inr (7, [.null, .null, .int 0, .int 0, .int 0]))] sz) (va_Qv (fun _ : Nat × Nat => True) (fun u t => xw_B dC dI [(cI, .int), (cB, .byte), (cL, .long), (cZ, .boolean), (cR, .object "PatchStore$Repository")] (va_A [(h, .inr (7, [.null, .null, .int 0, .int 0, .int 0]))] sz) [(h, .inr (7, [.ref u.1, .ref u.2, .int 0, .int 0, .int (-1)])), (u.1, .inl (cL, 8, .inr (.inl (fun _ => 0)))), (u.2, .inl (cB, 32, .inl (fun _ => 0)))] t) (va_A [(h, .inr (7, [.null, .null, .int 0, .int 0, .int 0]))] sz)) 2 40 (va_A [(h, .inr (7, [.null, .null, .int 0, .int 0, .int 0]))] sz) := by
  refine Met.ofW (cc := prog_8_method_1_code) (maxL := 1) (ret := none) (by decide) rfl ?_
  intro p e s m args below meth c s₁ B hml hv
  obtain ⟨rfl, hsz, hP, hK, hD0, hN, hTh⟩ := hv
  have hx := B.exec
  have hb := B.bytes
  have hr := B.returns
  have hts0 := atoms_spec (ws := ws_Re_init) B.pre
  have hts : ∀ w ∈ xg_1, w.before _ s = true := fun w h => hts0 w (List.mem_cons_of_mem _ h)
  have hown : s.vm.findClass "PatchStore$Repository" = some m.cls := findClass_of_methodNamed B.named
  have hlocks := B.notSynchronized
  have hin : meth.name = "<init>" := (name_of_methodNamed B.named B.method).1
  subst hsz
  have hD := hD0.self (sz := s.heap.size)
  generalize hAe : va_A [(h, .inr (7, [.null, .null, .int 0, .int 0, .int 0]))] s.heap.size = A at hD hTh ⊢
  have hA : ∀ q : Nat, s.heap.size ≤ q → A q := fun q h => by rw [← hAe]; exact Or.inr h
  have hS : va_S A s.heap s.heap [] := va_S.rf
  have hl := lv_entry ([.ref h]) (n := 1) (Nat.le_of_ble_eq_true rfl)
  rw [lg_entry_eq]
  generalize (lg_sl ([.ref h]) ++ List.replicate (1 - (lg_sl ([.ref h])).length) Slot.unset).toArray = ls at hl ⊢
  have hl : lv_has ls 1 [(0, .ref h)] := hl
  refine lv_aload_n hx hb d_Re_init_0 rfl (lv_at hl 0 rfl) ?_
  refine W.objInit hx hb hown (hts _ gw_526) (hts _ gw_43) (hts _ gw_44) rfl (by rw [hml]; exact hl.1) rfl d_Re_init_1 (Nat.le_of_ble_eq_true rfl) (Nat.le_of_ble_eq_true rfl) ?_
  refine W.eq (g2 := F0 m 4 ls []) rfl ?_
  refine lv_aload_n hx hb d_Re_init_4 rfl (lv_at hl 0 rfl) ?_
  refine lv_bipush (v := 8) hx hb d_Re_init_5 (by decide) ?_
  refine va_newa (atype := .long) (ty := .long) (a0 := (8, .inr (.inl (fun _ => 0)))) hx hb (hts _ gw_127) rfl hK hP hD hS hA (fun _ => rfl) (by decide) (N' := 8) (by decide) (by decide) (Nat.le_of_ble_eq_true rfl) (Nat.le_of_ble_eq_true rfl) d_Re_init_7 (fun q7 cA H hK hP hD hS => ?_)
  obtain rfl : cL = cA := (xk_u 5 2 hK rfl rfl).symm
  have hK := hK.sub (tys' := [(cI, .int), (cB, .byte), (cL, .long), (cZ, .boolean), (cR, .object "PatchStore$Repository")]) [0, 1, 2, 3, 4] rfl
  have hP : va_P (dC, dI) classes [(h, .inr (7, [.null, .null, .int 0, .int 0, .int 0])), (q7, .inl (cL, 8, .inr (.inl (fun _ => 0))))] H := hP
  have hD : va_D A [(h, .inr (7, [.null, .null, .int 0, .int 0, .int 0])), (q7, .inl (cL, 8, .inr (.inl (fun _ => 0))))] := hD
  refine W.widen (k := 1) (n := 8) (Nat.le_of_ble_eq_true rfl) (Nat.le_of_ble_eq_true rfl) ?_
  refine va_putF (D := (dC, dI)) (ci := 7) (v := .ref q7) (ty := .array .long) (C := R_Re) (T := F_Re) (N := 5) hx hb hts i_Re t_Re t_Re_ok n_Re hown hK hP hD hS 0 rfl rfl 0 (by decide) (hts _ gw_527) (fun _ h9 => h9) rfl hin rfl (by decide +kernel) rfl rfl (Nat.le_of_ble_eq_true rfl) d_Re_init_9 (fun H locs hP hD hS => ?_)
  have hP : va_P (dC, dI) classes [(h, .inr (7, [.ref q7, .null, .int 0, .int 0, .int 0])), (q7, .inl (cL, 8, .inr (.inl (fun _ => 0))))] H := hP
  have hD : va_D A [(h, .inr (7, [.ref q7, .null, .int 0, .int 0, .int 0])), (q7, .inl (cL, 8, .inr (.inl (fun _ => 0))))] := hD
  refine lv_aload_n hx hb d_Re_init_12 rfl (lv_at hl 0 rfl) ?_
  refine lv_bipush (v := 32) hx hb d_Re_init_13 (by decide) ?_
  refine va_newa (atype := .byte) (ty := .byte) (a0 := (32, .inl (fun _ => 0))) hx hb (hts _ gw_70) rfl hK hP hD hS hA (fun _ => rfl) (by decide) (N' := 32) (by decide) (by decide) (Nat.le_of_ble_eq_true rfl) (Nat.le_of_ble_eq_true rfl) d_Re_init_15 (fun q15 cA H hK hP hD hS => ?_)
  obtain rfl : cB = cA := (xk_u 5 1 hK rfl rfl).symm
  have hK := hK.sub (tys' := [(cI, .int), (cB, .byte), (cL, .long), (cZ, .boolean), (cR, .object "PatchStore$Repository")]) [0, 1, 2, 3, 4] rfl
  have hP : va_P (dC, dI) classes [(h, .inr (7, [.ref q7, .null, .int 0, .int 0, .int 0])), (q7, .inl (cL, 8, .inr (.inl (fun _ => 0)))), (q15, .inl (cB, 32, .inl (fun _ => 0)))] H := hP
  have hD : va_D A [(h, .inr (7, [.ref q7, .null, .int 0, .int 0, .int 0])), (q7, .inl (cL, 8, .inr (.inl (fun _ => 0)))), (q15, .inl (cB, 32, .inl (fun _ => 0)))] := hD
  refine W.widen (k := 2) (n := 40) (Nat.le_of_ble_eq_true rfl) (Nat.le_of_ble_eq_true rfl) ?_
  refine va_putF (D := (dC, dI)) (ci := 7) (v := .ref q15) (ty := .array .byte) (C := R_Re) (T := F_Re) (N := 5) hx hb hts i_Re t_Re t_Re_ok n_Re hown hK hP hD hS 0 rfl rfl 1 (by decide) (hts _ gw_529) (fun _ h9 => h9) rfl hin rfl (by decide +kernel) rfl rfl (Nat.le_of_ble_eq_true rfl) d_Re_init_17 (fun H locs hP hD hS => ?_)
  have hP : va_P (dC, dI) classes [(h, .inr (7, [.ref q7, .ref q15, .int 0, .int 0, .int 0])), (q7, .inl (cL, 8, .inr (.inl (fun _ => 0)))), (q15, .inl (cB, 32, .inl (fun _ => 0)))] H := hP
  have hD : va_D A [(h, .inr (7, [.ref q7, .ref q15, .int 0, .int 0, .int 0])), (q7, .inl (cL, 8, .inr (.inl (fun _ => 0)))), (q15, .inl (cB, 32, .inl (fun _ => 0)))] := hD
  refine lv_aload_n hx hb d_Re_init_20 rfl (lv_at hl 0 rfl) ?_
  refine lv_iconst (v := (-1)) hx hb d_Re_init_21 (by decide) ?_
  refine va_put (D := (dC, dI)) (ci := 7) (v := .int (-1)) (ty := .int) (C := R_Re) (T := F_Re) (N := 5) hx hb hts i_Re t_Re t_Re_ok n_Re hown hK hP hD hS 0 rfl rfl 4 (by decide) (hts _ gw_536) (fun _ h9 => h9) rfl (by decide +kernel) rfl rfl (Nat.le_of_ble_eq_true rfl) d_Re_init_22 (fun H locs hP hD hS => ?_)
  have hP : va_P (dC, dI) classes [(h, .inr (7, [.ref q7, .ref q15, .int 0, .int 0, .int (-1)])), (q7, .inl (cL, 8, .inr (.inl (fun _ => 0)))), (q15, .inl (cB, 32, .inl (fun _ => 0)))] H := hP
  have hD : va_D A [(h, .inr (7, [.ref q7, .ref q15, .int 0, .int 0, .int (-1)])), (q7, .inl (cL, 8, .inr (.inl (fun _ => 0)))), (q15, .inl (cB, 32, .inl (fun _ => 0)))] := hD
  exact W.vret hx hb hr (fun t ht hW => ⟨⟨(q7, q15), rfl, trivial, by rw [ht]; exact hP, va_K.moved hW.alike hK, hD⟩, hS.F ht⟩) hS.2.2 d_Re_init_25
set_option maxHeartbeats 4000000 in
set_option maxRecDepth 100000 in
/-- m_Ch_init -/
theorem m_Ch_init (l : Launch) (dC : Nat → ClassId) (dI : Nat → Nat → Nat) (cI cB cL cZ cR : ClassId) (h : Nat)  (sz : Nat) : Met l y_Ch_init ws_Ch_init ({ frames := 1, cells := 5, slots := 152200, locals := 60 }) (xw_Px dC dI [(cI, .int), (cB, .byte), (cL, .long), (cZ, .boolean), (cR, .object "PatchStore$Repository")] [.ref h] [(h, .inr (1, [.null, .null, .null, .null, .null, .int 0]))] sz) (va_Qv (fun _ : Nat × Nat × Nat × Nat × Nat => True) (fun u t => xw_B dC dI [(cI, .int), (cB, .byte), (cL, .long), (cZ, .boolean), (cR, .object "PatchStore$Repository")] (va_A [(h, .inr (1, [.null, .null, .null, .null, .null, .int 0]))] sz) [(h, .inr (1, [.ref u.1, .ref u.2.1, .ref u.2.2.1, .ref u.2.2.2.1, .ref u.2.2.2.2, .int 0])), (u.1, .inl (cI, 38000, .inl (fun _ => 0))), (u.2.1, .inl (cI, 38000, .inl (fun _ => 0))), (u.2.2.1, .inl (cI, 38000, .inl (fun _ => 0))), (u.2.2.2.1, .inl (cI, 38000, .inl (fun _ => 0))), (u.2.2.2.2, .inl (cI, 200, .inl (fun _ => 0)))] t) (va_A [(h, .inr (1, [.null, .null, .null, .null, .null, .int 0]))] sz)) 5 152200 (va_A [(h, .inr (1, [.null, .null, .null, .null, .null, .int 0]))] sz) := by
  refine Met.ofW (cc := prog_2_method_1_code) (maxL := 1) (ret := none) (by decide) rfl ?_
  intro p e s m args below meth c s₁ B hml hv
  obtain ⟨rfl, hsz, hP, hK, hD0, hN, hTh⟩ := hv
  have hx := B.exec
  have hb := B.bytes
  have hr := B.returns
  have hts0 := atoms_spec (ws := ws_Ch_init) B.pre
  have hts : ∀ w ∈ xg_1, w.before _ s = true := fun w h => hts0 w (List.mem_cons_of_mem _ h)
  have hown : s.vm.findClass "PatchStore$Changes" = some m.cls := findClass_of_methodNamed B.named
  have hlocks := B.notSynchronized
  have hin : meth.name = "<init>" := (name_of_methodNamed B.named B.method).1
  subst hsz
  have hD := hD0.self (sz := s.heap.size)
  generalize hAe : va_A [(h, .inr (1, [.null, .null, .null, .null, .null, .int 0]))] s.heap.size = A at hD hTh ⊢
  have hA : ∀ q : Nat, s.heap.size ≤ q → A q := fun q h => by rw [← hAe]; exact Or.inr h
  have hS : va_S A s.heap s.heap [] := va_S.rf
  have hl := lv_entry ([.ref h]) (n := 1) (Nat.le_of_ble_eq_true rfl)
  rw [lg_entry_eq]
  generalize (lg_sl ([.ref h]) ++ List.replicate (1 - (lg_sl ([.ref h])).length) Slot.unset).toArray = ls at hl ⊢
  have hl : lv_has ls 1 [(0, .ref h)] := hl
  refine lv_aload_n hx hb d_Ch_init_0 rfl (lv_at hl 0 rfl) ?_
  refine W.objInit hx hb hown (hts _ gw_84) (hts _ gw_43) (hts _ gw_44) rfl (by rw [hml]; exact hl.1) rfl d_Ch_init_1 (Nat.le_of_ble_eq_true rfl) (Nat.le_of_ble_eq_true rfl) ?_
  refine W.eq (g2 := F0 m 4 ls []) rfl ?_
  refine lv_aload_n hx hb d_Ch_init_4 rfl (lv_at hl 0 rfl) ?_
  refine lv_ldc (own := "PatchStore$Changes") hx hb hown (hts _ gw_85) d_Ch_init_5 ?_
  refine va_newa (atype := .int) (ty := .int) (a0 := (38000, .inl (fun _ => 0))) hx hb (hts _ gw_71) rfl hK hP hD hS hA (fun _ => rfl) (by decide) (N' := 38000) (by decide) (by decide) (Nat.le_of_ble_eq_true rfl) (Nat.le_of_ble_eq_true rfl) d_Ch_init_7 (fun q7 cA H hK hP hD hS => ?_)
  obtain rfl : cI = cA := (xk_u 5 0 hK rfl rfl).symm
  have hK := hK.sub (tys' := [(cI, .int), (cB, .byte), (cL, .long), (cZ, .boolean), (cR, .object "PatchStore$Repository")]) [0, 1, 2, 3, 4] rfl
  have hP : va_P (dC, dI) classes [(h, .inr (1, [.null, .null, .null, .null, .null, .int 0])), (q7, .inl (cI, 38000, .inl (fun _ => 0)))] H := hP
  have hD : va_D A [(h, .inr (1, [.null, .null, .null, .null, .null, .int 0])), (q7, .inl (cI, 38000, .inl (fun _ => 0)))] := hD
  refine W.widen (k := 1) (n := 38000) (Nat.le_of_ble_eq_true rfl) (Nat.le_of_ble_eq_true rfl) ?_
  refine va_putF (D := (dC, dI)) (ci := 1) (v := .ref q7) (ty := .array .int) (C := R_Ch) (T := F_Ch) (N := 6) hx hb hts i_Ch t_Ch t_Ch_ok n_Ch hown hK hP hD hS 0 rfl rfl 0 (by decide) (hts _ gw_86) (fun _ h9 => h9) rfl hin rfl (by decide +kernel) rfl rfl (Nat.le_of_ble_eq_true rfl) d_Ch_init_9 (fun H locs hP hD hS => ?_)
  have hP : va_P (dC, dI) classes [(h, .inr (1, [.ref q7, .null, .null, .null, .null, .int 0])), (q7, .inl (cI, 38000, .inl (fun _ => 0)))] H := hP
  have hD : va_D A [(h, .inr (1, [.ref q7, .null, .null, .null, .null, .int 0])), (q7, .inl (cI, 38000, .inl (fun _ => 0)))] := hD
  refine lv_aload_n hx hb d_Ch_init_12 rfl (lv_at hl 0 rfl) ?_
  refine lv_ldc (own := "PatchStore$Changes") hx hb hown (hts _ gw_85) d_Ch_init_13 ?_
  refine va_newa (atype := .int) (ty := .int) (a0 := (38000, .inl (fun _ => 0))) hx hb (hts _ gw_71) rfl hK hP hD hS hA (fun _ => rfl) (by decide) (N' := 38000) (by decide) (by decide) (Nat.le_of_ble_eq_true rfl) (Nat.le_of_ble_eq_true rfl) d_Ch_init_15 (fun q15 cA H hK hP hD hS => ?_)
  obtain rfl : cI = cA := (xk_u 5 0 hK rfl rfl).symm
  have hK := hK.sub (tys' := [(cI, .int), (cB, .byte), (cL, .long), (cZ, .boolean), (cR, .object "PatchStore$Repository")]) [0, 1, 2, 3, 4] rfl
  have hP : va_P (dC, dI) classes [(h, .inr (1, [.ref q7, .null, .null, .null, .null, .int 0])), (q7, .inl (cI, 38000, .inl (fun _ => 0))), (q15, .inl (cI, 38000, .inl (fun _ => 0)))] H := hP
  have hD : va_D A [(h, .inr (1, [.ref q7, .null, .null, .null, .null, .int 0])), (q7, .inl (cI, 38000, .inl (fun _ => 0))), (q15, .inl (cI, 38000, .inl (fun _ => 0)))] := hD
  refine W.widen (k := 2) (n := 76000) (Nat.le_of_ble_eq_true rfl) (Nat.le_of_ble_eq_true rfl) ?_
  refine va_putF (D := (dC, dI)) (ci := 1) (v := .ref q15) (ty := .array .int) (C := R_Ch) (T := F_Ch) (N := 6) hx hb hts i_Ch t_Ch t_Ch_ok n_Ch hown hK hP hD hS 0 rfl rfl 1 (by decide) (hts _ gw_92) (fun _ h9 => h9) rfl hin rfl (by decide +kernel) rfl rfl (Nat.le_of_ble_eq_true rfl) d_Ch_init_17 (fun H locs hP hD hS => ?_)
  have hP : va_P (dC, dI) classes [(h, .inr (1, [.ref q7, .ref q15, .null, .null, .null, .int 0])), (q7, .inl (cI, 38000, .inl (fun _ => 0))), (q15, .inl (cI, 38000, .inl (fun _ => 0)))] H := hP
  have hD : va_D A [(h, .inr (1, [.ref q7, .ref q15, .null, .null, .null, .int 0])), (q7, .inl (cI, 38000, .inl (fun _ => 0))), (q15, .inl (cI, 38000, .inl (fun _ => 0)))] := hD
  refine lv_aload_n hx hb d_Ch_init_20 rfl (lv_at hl 0 rfl) ?_
  refine lv_ldc (own := "PatchStore$Changes") hx hb hown (hts _ gw_85) d_Ch_init_21 ?_
  refine va_newa (atype := .int) (ty := .int) (a0 := (38000, .inl (fun _ => 0))) hx hb (hts _ gw_71) rfl hK hP hD hS hA (fun _ => rfl) (by decide) (N' := 38000) (by decide) (by decide) (Nat.le_of_ble_eq_true rfl) (Nat.le_of_ble_eq_true rfl) d_Ch_init_23 (fun q23 cA H hK hP hD hS => ?_)
  obtain rfl : cI = cA := (xk_u 5 0 hK rfl rfl).symm
  have hK := hK.sub (tys' := [(cI, .int), (cB, .byte), (cL, .long), (cZ, .boolean), (cR, .object "PatchStore$Repository")]) [0, 1, 2, 3, 4] rfl
  have hP : va_P (dC, dI) classes [(h, .inr (1, [.ref q7, .ref q15, .null, .null, .null, .int 0])), (q7, .inl (cI, 38000, .inl (fun _ => 0))), (q15, .inl (cI, 38000, .inl (fun _ => 0))), (q23, .inl (cI, 38000, .inl (fun _ => 0)))] H := hP
  have hD : va_D A [(h, .inr (1, [.ref q7, .ref q15, .null, .null, .null, .int 0])), (q7, .inl (cI, 38000, .inl (fun _ => 0))), (q15, .inl (cI, 38000, .inl (fun _ => 0))), (q23, .inl (cI, 38000, .inl (fun _ => 0)))] := hD
  refine W.widen (k := 3) (n := 114000) (Nat.le_of_ble_eq_true rfl) (Nat.le_of_ble_eq_true rfl) ?_
  refine va_putF (D := (dC, dI)) (ci := 1) (v := .ref q23) (ty := .array .int) (C := R_Ch) (T := F_Ch) (N := 6) hx hb hts i_Ch t_Ch t_Ch_ok n_Ch hown hK hP hD hS 0 rfl rfl 2 (by decide) (hts _ gw_98) (fun _ h9 => h9) rfl hin rfl (by decide +kernel) rfl rfl (Nat.le_of_ble_eq_true rfl) d_Ch_init_25 (fun H locs hP hD hS => ?_)
  have hP : va_P (dC, dI) classes [(h, .inr (1, [.ref q7, .ref q15, .ref q23, .null, .null, .int 0])), (q7, .inl (cI, 38000, .inl (fun _ => 0))), (q15, .inl (cI, 38000, .inl (fun _ => 0))), (q23, .inl (cI, 38000, .inl (fun _ => 0)))] H := hP
  have hD : va_D A [(h, .inr (1, [.ref q7, .ref q15, .ref q23, .null, .null, .int 0])), (q7, .inl (cI, 38000, .inl (fun _ => 0))), (q15, .inl (cI, 38000, .inl (fun _ => 0))), (q23, .inl (cI, 38000, .inl (fun _ => 0)))] := hD
  refine lv_aload_n hx hb d_Ch_init_28 rfl (lv_at hl 0 rfl) ?_
  refine lv_ldc (own := "PatchStore$Changes") hx hb hown (hts _ gw_85) d_Ch_init_29 ?_
  refine va_newa (atype := .int) (ty := .int) (a0 := (38000, .inl (fun _ => 0))) hx hb (hts _ gw_71) rfl hK hP hD hS hA (fun _ => rfl) (by decide) (N' := 38000) (by decide) (by decide) (Nat.le_of_ble_eq_true rfl) (Nat.le_of_ble_eq_true rfl) d_Ch_init_31 (fun q31 cA H hK hP hD hS => ?_)
  obtain rfl : cI = cA := (xk_u 5 0 hK rfl rfl).symm
  have hK := hK.sub (tys' := [(cI, .int), (cB, .byte), (cL, .long), (cZ, .boolean), (cR, .object "PatchStore$Repository")]) [0, 1, 2, 3, 4] rfl
  have hP : va_P (dC, dI) classes [(h, .inr (1, [.ref q7, .ref q15, .ref q23, .null, .null, .int 0])), (q7, .inl (cI, 38000, .inl (fun _ => 0))), (q15, .inl (cI, 38000, .inl (fun _ => 0))), (q23, .inl (cI, 38000, .inl (fun _ => 0))), (q31, .inl (cI, 38000, .inl (fun _ => 0)))] H := hP
  have hD : va_D A [(h, .inr (1, [.ref q7, .ref q15, .ref q23, .null, .null, .int 0])), (q7, .inl (cI, 38000, .inl (fun _ => 0))), (q15, .inl (cI, 38000, .inl (fun _ => 0))), (q23, .inl (cI, 38000, .inl (fun _ => 0))), (q31, .inl (cI, 38000, .inl (fun _ => 0)))] := hD
  refine W.widen (k := 4) (n := 152000) (Nat.le_of_ble_eq_true rfl) (Nat.le_of_ble_eq_true rfl) ?_
  refine va_putF (D := (dC, dI)) (ci := 1) (v := .ref q31) (ty := .array .int) (C := R_Ch) (T := F_Ch) (N := 6) hx hb hts i_Ch t_Ch t_Ch_ok n_Ch hown hK hP hD hS 0 rfl rfl 3 (by decide) (hts _ gw_103) (fun _ h9 => h9) rfl hin rfl (by decide +kernel) rfl rfl (Nat.le_of_ble_eq_true rfl) d_Ch_init_33 (fun H locs hP hD hS => ?_)
  have hP : va_P (dC, dI) classes [(h, .inr (1, [.ref q7, .ref q15, .ref q23, .ref q31, .null, .int 0])), (q7, .inl (cI, 38000, .inl (fun _ => 0))), (q15, .inl (cI, 38000, .inl (fun _ => 0))), (q23, .inl (cI, 38000, .inl (fun _ => 0))), (q31, .inl (cI, 38000, .inl (fun _ => 0)))] H := hP
  have hD : va_D A [(h, .inr (1, [.ref q7, .ref q15, .ref q23, .ref q31, .null, .int 0])), (q7, .inl (cI, 38000, .inl (fun _ => 0))), (q15, .inl (cI, 38000, .inl (fun _ => 0))), (q23, .inl (cI, 38000, .inl (fun _ => 0))), (q31, .inl (cI, 38000, .inl (fun _ => 0)))] := hD
  refine lv_aload_n hx hb d_Ch_init_36 rfl (lv_at hl 0 rfl) ?_
  refine lv_sipush (v := 200) hx hb d_Ch_init_37 (by decide) ?_
  refine va_newa (atype := .int) (ty := .int) (a0 := (200, .inl (fun _ => 0))) hx hb (hts _ gw_71) rfl hK hP hD hS hA (fun _ => rfl) (by decide) (N' := 200) (by decide) (by decide) (Nat.le_of_ble_eq_true rfl) (Nat.le_of_ble_eq_true rfl) d_Ch_init_40 (fun q40 cA H hK hP hD hS => ?_)
  obtain rfl : cI = cA := (xk_u 5 0 hK rfl rfl).symm
  have hK := hK.sub (tys' := [(cI, .int), (cB, .byte), (cL, .long), (cZ, .boolean), (cR, .object "PatchStore$Repository")]) [0, 1, 2, 3, 4] rfl
  have hP : va_P (dC, dI) classes [(h, .inr (1, [.ref q7, .ref q15, .ref q23, .ref q31, .null, .int 0])), (q7, .inl (cI, 38000, .inl (fun _ => 0))), (q15, .inl (cI, 38000, .inl (fun _ => 0))), (q23, .inl (cI, 38000, .inl (fun _ => 0))), (q31, .inl (cI, 38000, .inl (fun _ => 0))), (q40, .inl (cI, 200, .inl (fun _ => 0)))] H := hP
  have hD : va_D A [(h, .inr (1, [.ref q7, .ref q15, .ref q23, .ref q31, .null, .int 0])), (q7, .inl (cI, 38000, .inl (fun _ => 0))), (q15, .inl (cI, 38000, .inl (fun _ => 0))), (q23, .inl (cI, 38000, .inl (fun _ => 0))), (q31, .inl (cI, 38000, .inl (fun _ => 0))), (q40, .inl (cI, 200, .inl (fun _ => 0)))] := hD
  refine W.widen (k := 5) (n := 152200) (Nat.le_of_ble_eq_true rfl) (Nat.le_of_ble_eq_true rfl) ?_
  refine va_putF (D := (dC, dI)) (ci := 1) (v := .ref q40) (ty := .array .int) (C := R_Ch) (T := F_Ch) (N := 6) hx hb hts i_Ch t_Ch t_Ch_ok n_Ch hown hK hP hD hS 0 rfl rfl 4 (by decide) (hts _ gw_107) (fun _ h9 => h9) rfl hin rfl (by decide +kernel) rfl rfl (Nat.le_of_ble_eq_true rfl) d_Ch_init_42 (fun H locs hP hD hS => ?_)
  have hP : va_P (dC, dI) classes [(h, .inr (1, [.ref q7, .ref q15, .ref q23, .ref q31, .ref q40, .int 0])), (q7, .inl (cI, 38000, .inl (fun _ => 0))), (q15, .inl (cI, 38000, .inl (fun _ => 0))), (q23, .inl (cI, 38000, .inl (fun _ => 0))), (q31, .inl (cI, 38000, .inl (fun _ => 0))), (q40, .inl (cI, 200, .inl (fun _ => 0)))] H := hP
  have hD : va_D A [(h, .inr (1, [.ref q7, .ref q15, .ref q23, .ref q31, .ref q40, .int 0])), (q7, .inl (cI, 38000, .inl (fun _ => 0))), (q15, .inl (cI, 38000, .inl (fun _ => 0))), (q23, .inl (cI, 38000, .inl (fun _ => 0))), (q31, .inl (cI, 38000, .inl (fun _ => 0))), (q40, .inl (cI, 200, .inl (fun _ => 0)))] := hD
  exact W.vret hx hb hr (fun t ht hW => ⟨⟨(q7, q15, q23, q31, q40), rfl, trivial, by rw [ht]; exact hP, va_K.moved hW.alike hK, hD⟩, hS.F ht⟩) hS.2.2 d_Ch_init_45
set_option maxHeartbeats 4000000 in
set_option maxRecDepth 100000 in
/-- m_Li_init -/
theorem m_Li_init (l : Launch) (dC : Nat → ClassId) (dI : Nat → Nat → Nat) (cI cB cL cZ cR : ClassId) (h : Nat)  (sz : Nat) : Met l y_Li_init ws_Li_init ({ frames := 1, cells := 7, slots := 24200, locals := 60 }) (xw_Px dC dI [(cI, .int), (cB, .byte), (cL, .long), (cZ, .boolean), (cR, .object "PatchStore$Repository")] [.ref h] [(h, .inr (4, [.null, .null, .null, .null, .null, .null, .null, .int 0]))] sz) (va_Qv (fun _ : Nat × Nat × Nat × Nat × Nat × Nat × Nat => True) (fun u t => xw_B dC dI [(cI, .int), (cB, .byte), (cL, .long), (cZ, .boolean), (cR, .object "PatchStore$Repository")] (va_A [(h, .inr (4, [.null, .null, .null, .null, .null, .null, .null, .int 0]))] sz) [(h, .inr (4, [.ref u.1, .ref u.2.1, .ref u.2.2.1, .ref u.2.2.2.1, .ref u.2.2.2.2.1, .ref u.2.2.2.2.2.1, .ref u.2.2.2.2.2.2, .int 0])), (u.1, .inl (cI, 4000, .inl (fun _ => 0))), (u.2.1, .inl (cI, 4000, .inl (fun _ => 0))), (u.2.2.1, .inl (cI, 4000, .inl (fun _ => 0))), (u.2.2.2.1, .inl (cI, 4000, .inl (fun _ => 0))), (u.2.2.2.2.1, .inl (cI, 4000, .inl (fun _ => 0))), (u.2.2.2.2.2.1, .inl (cI, 4000, .inl (fun _ => 0))), (u.2.2.2.2.2.2, .inl (cI, 200, .inl (fun _ => 0)))] t) (va_A [(h, .inr (4, [.null, .null, .null, .null, .null, .null, .null, .int 0]))] sz)) 7 24200 (va_A [(h, .inr (4, [.null, .null, .null, .null, .null, .null, .null, .int 0]))] sz) := by
  refine Met.ofW (cc := prog_5_method_1_code) (maxL := 1) (ret := none) (by decide) rfl ?_
  intro p e s m args below meth c s₁ B hml hv
  obtain ⟨rfl, hsz, hP, hK, hD0, hN, hTh⟩ := hv
  have hx := B.exec
  have hb := B.bytes
  have hr := B.returns
  have hts0 := atoms_spec (ws := ws_Li_init) B.pre
  have hts : ∀ w ∈ xg_1, w.before _ s = true := fun w h => hts0 w (List.mem_cons_of_mem _ h)
  have hown : s.vm.findClass "PatchStore$Lines" = some m.cls := findClass_of_methodNamed B.named
  have hlocks := B.notSynchronized
  have hin : meth.name = "<init>" := (name_of_methodNamed B.named B.method).1
  subst hsz
  have hD := hD0.self (sz := s.heap.size)
  generalize hAe : va_A [(h, .inr (4, [.null, .null, .null, .null, .null, .null, .null, .int 0]))] s.heap.size = A at hD hTh ⊢
  have hA : ∀ q : Nat, s.heap.size ≤ q → A q := fun q h => by rw [← hAe]; exact Or.inr h
  have hS : va_S A s.heap s.heap [] := va_S.rf
  have hl := lv_entry ([.ref h]) (n := 1) (Nat.le_of_ble_eq_true rfl)
  rw [lg_entry_eq]
  generalize (lg_sl ([.ref h]) ++ List.replicate (1 - (lg_sl ([.ref h])).length) Slot.unset).toArray = ls at hl ⊢
  have hl : lv_has ls 1 [(0, .ref h)] := hl
  refine lv_aload_n hx hb d_Li_init_0 rfl (lv_at hl 0 rfl) ?_
  refine W.objInit hx hb hown (hts _ gw_133) (hts _ gw_43) (hts _ gw_44) rfl (by rw [hml]; exact hl.1) rfl d_Li_init_1 (Nat.le_of_ble_eq_true rfl) (Nat.le_of_ble_eq_true rfl) ?_
  refine W.eq (g2 := F0 m 4 ls []) rfl ?_
  refine lv_aload_n hx hb d_Li_init_4 rfl (lv_at hl 0 rfl) ?_
  refine lv_sipush (v := 4000) hx hb d_Li_init_5 (by decide) ?_
  refine va_newa (atype := .int) (ty := .int) (a0 := (4000, .inl (fun _ => 0))) hx hb (hts _ gw_71) rfl hK hP hD hS hA (fun _ => rfl) (by decide) (N' := 4000) (by decide) (by decide) (Nat.le_of_ble_eq_true rfl) (Nat.le_of_ble_eq_true rfl) d_Li_init_8 (fun q8 cA H hK hP hD hS => ?_)
  obtain rfl : cI = cA := (xk_u 5 0 hK rfl rfl).symm
  have hK := hK.sub (tys' := [(cI, .int), (cB, .byte), (cL, .long), (cZ, .boolean), (cR, .object "PatchStore$Repository")]) [0, 1, 2, 3, 4] rfl
  have hP : va_P (dC, dI) classes [(h, .inr (4, [.null, .null, .null, .null, .null, .null, .null, .int 0])), (q8, .inl (cI, 4000, .inl (fun _ => 0)))] H := hP
  have hD : va_D A [(h, .inr (4, [.null, .null, .null, .null, .null, .null, .null, .int 0])), (q8, .inl (cI, 4000, .inl (fun _ => 0)))] := hD
  refine W.widen (k := 1) (n := 4000) (Nat.le_of_ble_eq_true rfl) (Nat.le_of_ble_eq_true rfl) ?_
  refine va_putF (D := (dC, dI)) (ci := 4) (v := .ref q8) (ty := .array .int) (C := R_Li) (T := F_Li) (N := 8) hx hb hts i_Li t_Li t_Li_ok n_Li hown hK hP hD hS 0 rfl rfl 0 (by decide) (hts _ gw_134) (fun _ h9 => h9) rfl hin rfl (by decide +kernel) rfl rfl (Nat.le_of_ble_eq_true rfl) d_Li_init_10 (fun H locs hP hD hS => ?_)
  have hP : va_P (dC, dI) classes [(h, .inr (4, [.ref q8, .null, .null, .null, .null, .null, .null, .int 0])), (q8, .inl (cI, 4000, .inl (fun _ => 0)))] H := hP
  have hD : va_D A [(h, .inr (4, [.ref q8, .null, .null, .null, .null, .null, .null, .int 0])), (q8, .inl (cI, 4000, .inl (fun _ => 0)))] := hD
  refine lv_aload_n hx hb d_Li_init_13 rfl (lv_at hl 0 rfl) ?_
  refine lv_sipush (v := 4000) hx hb d_Li_init_14 (by decide) ?_
  refine va_newa (atype := .int) (ty := .int) (a0 := (4000, .inl (fun _ => 0))) hx hb (hts _ gw_71) rfl hK hP hD hS hA (fun _ => rfl) (by decide) (N' := 4000) (by decide) (by decide) (Nat.le_of_ble_eq_true rfl) (Nat.le_of_ble_eq_true rfl) d_Li_init_17 (fun q17 cA H hK hP hD hS => ?_)
  obtain rfl : cI = cA := (xk_u 5 0 hK rfl rfl).symm
  have hK := hK.sub (tys' := [(cI, .int), (cB, .byte), (cL, .long), (cZ, .boolean), (cR, .object "PatchStore$Repository")]) [0, 1, 2, 3, 4] rfl
  have hP : va_P (dC, dI) classes [(h, .inr (4, [.ref q8, .null, .null, .null, .null, .null, .null, .int 0])), (q8, .inl (cI, 4000, .inl (fun _ => 0))), (q17, .inl (cI, 4000, .inl (fun _ => 0)))] H := hP
  have hD : va_D A [(h, .inr (4, [.ref q8, .null, .null, .null, .null, .null, .null, .int 0])), (q8, .inl (cI, 4000, .inl (fun _ => 0))), (q17, .inl (cI, 4000, .inl (fun _ => 0)))] := hD
  refine W.widen (k := 2) (n := 8000) (Nat.le_of_ble_eq_true rfl) (Nat.le_of_ble_eq_true rfl) ?_
  refine va_putF (D := (dC, dI)) (ci := 4) (v := .ref q17) (ty := .array .int) (C := R_Li) (T := F_Li) (N := 8) hx hb hts i_Li t_Li t_Li_ok n_Li hown hK hP hD hS 0 rfl rfl 1 (by decide) (hts _ gw_138) (fun _ h9 => h9) rfl hin rfl (by decide +kernel) rfl rfl (Nat.le_of_ble_eq_true rfl) d_Li_init_19 (fun H locs hP hD hS => ?_)
  have hP : va_P (dC, dI) classes [(h, .inr (4, [.ref q8, .ref q17, .null, .null, .null, .null, .null, .int 0])), (q8, .inl (cI, 4000, .inl (fun _ => 0))), (q17, .inl (cI, 4000, .inl (fun _ => 0)))] H := hP
  have hD : va_D A [(h, .inr (4, [.ref q8, .ref q17, .null, .null, .null, .null, .null, .int 0])), (q8, .inl (cI, 4000, .inl (fun _ => 0))), (q17, .inl (cI, 4000, .inl (fun _ => 0)))] := hD
  refine lv_aload_n hx hb d_Li_init_22 rfl (lv_at hl 0 rfl) ?_
  refine lv_sipush (v := 4000) hx hb d_Li_init_23 (by decide) ?_
  refine va_newa (atype := .int) (ty := .int) (a0 := (4000, .inl (fun _ => 0))) hx hb (hts _ gw_71) rfl hK hP hD hS hA (fun _ => rfl) (by decide) (N' := 4000) (by decide) (by decide) (Nat.le_of_ble_eq_true rfl) (Nat.le_of_ble_eq_true rfl) d_Li_init_26 (fun q26 cA H hK hP hD hS => ?_)
  obtain rfl : cI = cA := (xk_u 5 0 hK rfl rfl).symm
  have hK := hK.sub (tys' := [(cI, .int), (cB, .byte), (cL, .long), (cZ, .boolean), (cR, .object "PatchStore$Repository")]) [0, 1, 2, 3, 4] rfl
  have hP : va_P (dC, dI) classes [(h, .inr (4, [.ref q8, .ref q17, .null, .null, .null, .null, .null, .int 0])), (q8, .inl (cI, 4000, .inl (fun _ => 0))), (q17, .inl (cI, 4000, .inl (fun _ => 0))), (q26, .inl (cI, 4000, .inl (fun _ => 0)))] H := hP
  have hD : va_D A [(h, .inr (4, [.ref q8, .ref q17, .null, .null, .null, .null, .null, .int 0])), (q8, .inl (cI, 4000, .inl (fun _ => 0))), (q17, .inl (cI, 4000, .inl (fun _ => 0))), (q26, .inl (cI, 4000, .inl (fun _ => 0)))] := hD
  refine W.widen (k := 3) (n := 12000) (Nat.le_of_ble_eq_true rfl) (Nat.le_of_ble_eq_true rfl) ?_
  refine va_putF (D := (dC, dI)) (ci := 4) (v := .ref q26) (ty := .array .int) (C := R_Li) (T := F_Li) (N := 8) hx hb hts i_Li t_Li t_Li_ok n_Li hown hK hP hD hS 0 rfl rfl 2 (by decide) (hts _ gw_144) (fun _ h9 => h9) rfl hin rfl (by decide +kernel) rfl rfl (Nat.le_of_ble_eq_true rfl) d_Li_init_28 (fun H locs hP hD hS => ?_)
  have hP : va_P (dC, dI) classes [(h, .inr (4, [.ref q8, .ref q17, .ref q26, .null, .null, .null, .null, .int 0])), (q8, .inl (cI, 4000, .inl (fun _ => 0))), (q17, .inl (cI, 4000, .inl (fun _ => 0))), (q26, .inl (cI, 4000, .inl (fun _ => 0)))] H := hP
  have hD : va_D A [(h, .inr (4, [.ref q8, .ref q17, .ref q26, .null, .null, .null, .null, .int 0])), (q8, .inl (cI, 4000, .inl (fun _ => 0))), (q17, .inl (cI, 4000, .inl (fun _ => 0))), (q26, .inl (cI, 4000, .inl (fun _ => 0)))] := hD
  refine lv_aload_n hx hb d_Li_init_31 rfl (lv_at hl 0 rfl) ?_
  refine lv_sipush (v := 4000) hx hb d_Li_init_32 (by decide) ?_
  refine va_newa (atype := .int) (ty := .int) (a0 := (4000, .inl (fun _ => 0))) hx hb (hts _ gw_71) rfl hK hP hD hS hA (fun _ => rfl) (by decide) (N' := 4000) (by decide) (by decide) (Nat.le_of_ble_eq_true rfl) (Nat.le_of_ble_eq_true rfl) d_Li_init_35 (fun q35 cA H hK hP hD hS => ?_)
  obtain rfl : cI = cA := (xk_u 5 0 hK rfl rfl).symm
  have hK := hK.sub (tys' := [(cI, .int), (cB, .byte), (cL, .long), (cZ, .boolean), (cR, .object "PatchStore$Repository")]) [0, 1, 2, 3, 4] rfl
  have hP : va_P (dC, dI) classes [(h, .inr (4, [.ref q8, .ref q17, .ref q26, .null, .null, .null, .null, .int 0])), (q8, .inl (cI, 4000, .inl (fun _ => 0))), (q17, .inl (cI, 4000, .inl (fun _ => 0))), (q26, .inl (cI, 4000, .inl (fun _ => 0))), (q35, .inl (cI, 4000, .inl (fun _ => 0)))] H := hP
  have hD : va_D A [(h, .inr (4, [.ref q8, .ref q17, .ref q26, .null, .null, .null, .null, .int 0])), (q8, .inl (cI, 4000, .inl (fun _ => 0))), (q17, .inl (cI, 4000, .inl (fun _ => 0))), (q26, .inl (cI, 4000, .inl (fun _ => 0))), (q35, .inl (cI, 4000, .inl (fun _ => 0)))] := hD
  refine W.widen (k := 4) (n := 16000) (Nat.le_of_ble_eq_true rfl) (Nat.le_of_ble_eq_true rfl) ?_
  refine va_putF (D := (dC, dI)) (ci := 4) (v := .ref q35) (ty := .array .int) (C := R_Li) (T := F_Li) (N := 8) hx hb hts i_Li t_Li t_Li_ok n_Li hown hK hP hD hS 0 rfl rfl 3 (by decide) (hts _ gw_149) (fun _ h9 => h9) rfl hin rfl (by decide +kernel) rfl rfl (Nat.le_of_ble_eq_true rfl) d_Li_init_37 (fun H locs hP hD hS => ?_)
  have hP : va_P (dC, dI) classes [(h, .inr (4, [.ref q8, .ref q17, .ref q26, .ref q35, .null, .null, .null, .int 0])), (q8, .inl (cI, 4000, .inl (fun _ => 0))), (q17, .inl (cI, 4000, .inl (fun _ => 0))), (q26, .inl (cI, 4000, .inl (fun _ => 0))), (q35, .inl (cI, 4000, .inl (fun _ => 0)))] H := hP
  have hD : va_D A [(h, .inr (4, [.ref q8, .ref q17, .ref q26, .ref q35, .null, .null, .null, .int 0])), (q8, .inl (cI, 4000, .inl (fun _ => 0))), (q17, .inl (cI, 4000, .inl (fun _ => 0))), (q26, .inl (cI, 4000, .inl (fun _ => 0))), (q35, .inl (cI, 4000, .inl (fun _ => 0)))] := hD
  refine lv_aload_n hx hb d_Li_init_40 rfl (lv_at hl 0 rfl) ?_
  refine lv_sipush (v := 4000) hx hb d_Li_init_41 (by decide) ?_
  refine va_newa (atype := .int) (ty := .int) (a0 := (4000, .inl (fun _ => 0))) hx hb (hts _ gw_71) rfl hK hP hD hS hA (fun _ => rfl) (by decide) (N' := 4000) (by decide) (by decide) (Nat.le_of_ble_eq_true rfl) (Nat.le_of_ble_eq_true rfl) d_Li_init_44 (fun q44 cA H hK hP hD hS => ?_)
  obtain rfl : cI = cA := (xk_u 5 0 hK rfl rfl).symm
  have hK := hK.sub (tys' := [(cI, .int), (cB, .byte), (cL, .long), (cZ, .boolean), (cR, .object "PatchStore$Repository")]) [0, 1, 2, 3, 4] rfl
  have hP : va_P (dC, dI) classes [(h, .inr (4, [.ref q8, .ref q17, .ref q26, .ref q35, .null, .null, .null, .int 0])), (q8, .inl (cI, 4000, .inl (fun _ => 0))), (q17, .inl (cI, 4000, .inl (fun _ => 0))), (q26, .inl (cI, 4000, .inl (fun _ => 0))), (q35, .inl (cI, 4000, .inl (fun _ => 0))), (q44, .inl (cI, 4000, .inl (fun _ => 0)))] H := hP
  have hD : va_D A [(h, .inr (4, [.ref q8, .ref q17, .ref q26, .ref q35, .null, .null, .null, .int 0])), (q8, .inl (cI, 4000, .inl (fun _ => 0))), (q17, .inl (cI, 4000, .inl (fun _ => 0))), (q26, .inl (cI, 4000, .inl (fun _ => 0))), (q35, .inl (cI, 4000, .inl (fun _ => 0))), (q44, .inl (cI, 4000, .inl (fun _ => 0)))] := hD
  refine W.widen (k := 5) (n := 20000) (Nat.le_of_ble_eq_true rfl) (Nat.le_of_ble_eq_true rfl) ?_
  refine va_putF (D := (dC, dI)) (ci := 4) (v := .ref q44) (ty := .array .int) (C := R_Li) (T := F_Li) (N := 8) hx hb hts i_Li t_Li t_Li_ok n_Li hown hK hP hD hS 0 rfl rfl 4 (by decide) (hts _ gw_154) (fun _ h9 => h9) rfl hin rfl (by decide +kernel) rfl rfl (Nat.le_of_ble_eq_true rfl) d_Li_init_46 (fun H locs hP hD hS => ?_)
  have hP : va_P (dC, dI) classes [(h, .inr (4, [.ref q8, .ref q17, .ref q26, .ref q35, .ref q44, .null, .null, .int 0])), (q8, .inl (cI, 4000, .inl (fun _ => 0))), (q17, .inl (cI, 4000, .inl (fun _ => 0))), (q26, .inl (cI, 4000, .inl (fun _ => 0))), (q35, .inl (cI, 4000, .inl (fun _ => 0))), (q44, .inl (cI, 4000, .inl (fun _ => 0)))] H := hP
  have hD : va_D A [(h, .inr (4, [.ref q8, .ref q17, .ref q26, .ref q35, .ref q44, .null, .null, .int 0])), (q8, .inl (cI, 4000, .inl (fun _ => 0))), (q17, .inl (cI, 4000, .inl (fun _ => 0))), (q26, .inl (cI, 4000, .inl (fun _ => 0))), (q35, .inl (cI, 4000, .inl (fun _ => 0))), (q44, .inl (cI, 4000, .inl (fun _ => 0)))] := hD
  refine lv_aload_n hx hb d_Li_init_49 rfl (lv_at hl 0 rfl) ?_
  refine lv_sipush (v := 4000) hx hb d_Li_init_50 (by decide) ?_
  refine va_newa (atype := .int) (ty := .int) (a0 := (4000, .inl (fun _ => 0))) hx hb (hts _ gw_71) rfl hK hP hD hS hA (fun _ => rfl) (by decide) (N' := 4000) (by decide) (by decide) (Nat.le_of_ble_eq_true rfl) (Nat.le_of_ble_eq_true rfl) d_Li_init_53 (fun q53 cA H hK hP hD hS => ?_)
  obtain rfl : cI = cA := (xk_u 5 0 hK rfl rfl).symm
  have hK := hK.sub (tys' := [(cI, .int), (cB, .byte), (cL, .long), (cZ, .boolean), (cR, .object "PatchStore$Repository")]) [0, 1, 2, 3, 4] rfl
  have hP : va_P (dC, dI) classes [(h, .inr (4, [.ref q8, .ref q17, .ref q26, .ref q35, .ref q44, .null, .null, .int 0])), (q8, .inl (cI, 4000, .inl (fun _ => 0))), (q17, .inl (cI, 4000, .inl (fun _ => 0))), (q26, .inl (cI, 4000, .inl (fun _ => 0))), (q35, .inl (cI, 4000, .inl (fun _ => 0))), (q44, .inl (cI, 4000, .inl (fun _ => 0))), (q53, .inl (cI, 4000, .inl (fun _ => 0)))] H := hP
  have hD : va_D A [(h, .inr (4, [.ref q8, .ref q17, .ref q26, .ref q35, .ref q44, .null, .null, .int 0])), (q8, .inl (cI, 4000, .inl (fun _ => 0))), (q17, .inl (cI, 4000, .inl (fun _ => 0))), (q26, .inl (cI, 4000, .inl (fun _ => 0))), (q35, .inl (cI, 4000, .inl (fun _ => 0))), (q44, .inl (cI, 4000, .inl (fun _ => 0))), (q53, .inl (cI, 4000, .inl (fun _ => 0)))] := hD
  refine W.widen (k := 6) (n := 24000) (Nat.le_of_ble_eq_true rfl) (Nat.le_of_ble_eq_true rfl) ?_
  refine va_putF (D := (dC, dI)) (ci := 4) (v := .ref q53) (ty := .array .int) (C := R_Li) (T := F_Li) (N := 8) hx hb hts i_Li t_Li t_Li_ok n_Li hown hK hP hD hS 0 rfl rfl 5 (by decide) (hts _ gw_157) (fun _ h9 => h9) rfl hin rfl (by decide +kernel) rfl rfl (Nat.le_of_ble_eq_true rfl) d_Li_init_55 (fun H locs hP hD hS => ?_)
  have hP : va_P (dC, dI) classes [(h, .inr (4, [.ref q8, .ref q17, .ref q26, .ref q35, .ref q44, .ref q53, .null, .int 0])), (q8, .inl (cI, 4000, .inl (fun _ => 0))), (q17, .inl (cI, 4000, .inl (fun _ => 0))), (q26, .inl (cI, 4000, .inl (fun _ => 0))), (q35, .inl (cI, 4000, .inl (fun _ => 0))), (q44, .inl (cI, 4000, .inl (fun _ => 0))), (q53, .inl (cI, 4000, .inl (fun _ => 0)))] H := hP
  have hD : va_D A [(h, .inr (4, [.ref q8, .ref q17, .ref q26, .ref q35, .ref q44, .ref q53, .null, .int 0])), (q8, .inl (cI, 4000, .inl (fun _ => 0))), (q17, .inl (cI, 4000, .inl (fun _ => 0))), (q26, .inl (cI, 4000, .inl (fun _ => 0))), (q35, .inl (cI, 4000, .inl (fun _ => 0))), (q44, .inl (cI, 4000, .inl (fun _ => 0))), (q53, .inl (cI, 4000, .inl (fun _ => 0)))] := hD
  refine lv_aload_n hx hb d_Li_init_58 rfl (lv_at hl 0 rfl) ?_
  refine lv_sipush (v := 200) hx hb d_Li_init_59 (by decide) ?_
  refine va_newa (atype := .int) (ty := .int) (a0 := (200, .inl (fun _ => 0))) hx hb (hts _ gw_71) rfl hK hP hD hS hA (fun _ => rfl) (by decide) (N' := 200) (by decide) (by decide) (Nat.le_of_ble_eq_true rfl) (Nat.le_of_ble_eq_true rfl) d_Li_init_62 (fun q62 cA H hK hP hD hS => ?_)
  obtain rfl : cI = cA := (xk_u 5 0 hK rfl rfl).symm
  have hK := hK.sub (tys' := [(cI, .int), (cB, .byte), (cL, .long), (cZ, .boolean), (cR, .object "PatchStore$Repository")]) [0, 1, 2, 3, 4] rfl
  have hP : va_P (dC, dI) classes [(h, .inr (4, [.ref q8, .ref q17, .ref q26, .ref q35, .ref q44, .ref q53, .null, .int 0])), (q8, .inl (cI, 4000, .inl (fun _ => 0))), (q17, .inl (cI, 4000, .inl (fun _ => 0))), (q26, .inl (cI, 4000, .inl (fun _ => 0))), (q35, .inl (cI, 4000, .inl (fun _ => 0))), (q44, .inl (cI, 4000, .inl (fun _ => 0))), (q53, .inl (cI, 4000, .inl (fun _ => 0))), (q62, .inl (cI, 200, .inl (fun _ => 0)))] H := hP
  have hD : va_D A [(h, .inr (4, [.ref q8, .ref q17, .ref q26, .ref q35, .ref q44, .ref q53, .null, .int 0])), (q8, .inl (cI, 4000, .inl (fun _ => 0))), (q17, .inl (cI, 4000, .inl (fun _ => 0))), (q26, .inl (cI, 4000, .inl (fun _ => 0))), (q35, .inl (cI, 4000, .inl (fun _ => 0))), (q44, .inl (cI, 4000, .inl (fun _ => 0))), (q53, .inl (cI, 4000, .inl (fun _ => 0))), (q62, .inl (cI, 200, .inl (fun _ => 0)))] := hD
  refine W.widen (k := 7) (n := 24200) (Nat.le_of_ble_eq_true rfl) (Nat.le_of_ble_eq_true rfl) ?_
  refine va_putF (D := (dC, dI)) (ci := 4) (v := .ref q62) (ty := .array .int) (C := R_Li) (T := F_Li) (N := 8) hx hb hts i_Li t_Li t_Li_ok n_Li hown hK hP hD hS 0 rfl rfl 6 (by decide) (hts _ gw_160) (fun _ h9 => h9) rfl hin rfl (by decide +kernel) rfl rfl (Nat.le_of_ble_eq_true rfl) d_Li_init_64 (fun H locs hP hD hS => ?_)
  have hP : va_P (dC, dI) classes [(h, .inr (4, [.ref q8, .ref q17, .ref q26, .ref q35, .ref q44, .ref q53, .ref q62, .int 0])), (q8, .inl (cI, 4000, .inl (fun _ => 0))), (q17, .inl (cI, 4000, .inl (fun _ => 0))), (q26, .inl (cI, 4000, .inl (fun _ => 0))), (q35, .inl (cI, 4000, .inl (fun _ => 0))), (q44, .inl (cI, 4000, .inl (fun _ => 0))), (q53, .inl (cI, 4000, .inl (fun _ => 0))), (q62, .inl (cI, 200, .inl (fun _ => 0)))] H := hP
  have hD : va_D A [(h, .inr (4, [.ref q8, .ref q17, .ref q26, .ref q35, .ref q44, .ref q53, .ref q62, .int 0])), (q8, .inl (cI, 4000, .inl (fun _ => 0))), (q17, .inl (cI, 4000, .inl (fun _ => 0))), (q26, .inl (cI, 4000, .inl (fun _ => 0))), (q35, .inl (cI, 4000, .inl (fun _ => 0))), (q44, .inl (cI, 4000, .inl (fun _ => 0))), (q53, .inl (cI, 4000, .inl (fun _ => 0))), (q62, .inl (cI, 200, .inl (fun _ => 0)))] := hD
  exact W.vret hx hb hr (fun t ht hW => ⟨⟨(q8, q17, q26, q35, q44, q53, q62), rfl, trivial, by rw [ht]; exact hP, va_K.moved hW.alike hK, hD⟩, hS.F ht⟩) hS.2.2 d_Li_init_67
set_option maxHeartbeats 4000000 in
set_option maxRecDepth 100000 in
/-- m_Fo_init -/
theorem m_Fo_init (l : Launch) (dC : Nat → ClassId) (dI : Nat → Nat → Nat) (cI cB cL cZ cR : ClassId) (h : Nat) (sk : Nat) (sz : Nat) : Met l y_Fo_init ws_Fo_init ({ frames := 1, cells := 0, slots := 0, locals := 60 }) (xw_Px dC dI [(cI, .int), (cB, .byte), (cL, .long), (cZ, .boolean), (cR, .object "PatchStore$Repository")] [.ref h, .ref sk] [(h, .inr (2, [.null]))] sz) (va_Qv (fun _ : Unit => True) (fun u t => xw_B dC dI [(cI, .int), (cB, .byte), (cL, .long), (cZ, .boolean), (cR, .object "PatchStore$Repository")] (va_A [(h, .inr (2, [.null]))] sz) [(h, .inr (2, [.ref sk]))] t) (va_A [(h, .inr (2, [.null]))] sz)) 0 0 (va_A [(h, .inr (2, [.null]))] sz) := by
  refine Met.ofW (cc := prog_3_method_1_code) (maxL := 2) (ret := none) (by decide) rfl ?_
  intro p e s m args below meth c s₁ B hml hv
  obtain ⟨rfl, hsz, hP, hK, hD0, hN, hTh⟩ := hv
  have hx := B.exec
  have hb := B.bytes
  have hr := B.returns
  have hts0 := atoms_spec (ws := ws_Fo_init) B.pre
  have hts : ∀ w ∈ xg_1, w.before _ s = true := fun w h => hts0 w (List.mem_cons_of_mem _ h)
  have hown : s.vm.findClass "PatchStore$Form" = some m.cls := findClass_of_methodNamed B.named
  have hlocks := B.notSynchronized
  have hin : meth.name = "<init>" := (name_of_methodNamed B.named B.method).1
  subst hsz
  have hD := hD0.self (sz := s.heap.size)
  generalize hAe : va_A [(h, .inr (2, [.null]))] s.heap.size = A at hD hTh ⊢
  have hA : ∀ q : Nat, s.heap.size ≤ q → A q := fun q h => by rw [← hAe]; exact Or.inr h
  have hS : va_S A s.heap s.heap [] := va_S.rf
  have hl := lv_entry ([.ref h, .ref sk]) (n := 2) (Nat.le_of_ble_eq_true rfl)
  rw [lg_entry_eq]
  generalize (lg_sl ([.ref h, .ref sk]) ++ List.replicate (2 - (lg_sl ([.ref h, .ref sk])).length) Slot.unset).toArray = ls at hl ⊢
  have hl : lv_has ls 2 [(0, .ref h), (1, .ref sk)] := hl
  refine lv_aload_n hx hb d_Fo_init_0 rfl (lv_at hl 0 rfl) ?_
  refine W.objInit hx hb hown (hts _ gw_279) (hts _ gw_43) (hts _ gw_44) rfl (by rw [hml]; exact hl.1) rfl d_Fo_init_1 (Nat.le_of_ble_eq_true rfl) (Nat.le_of_ble_eq_true rfl) ?_
  refine W.eq (g2 := F0 m 4 ls []) rfl ?_
  refine lv_aload_n hx hb d_Fo_init_4 rfl (lv_at hl 0 rfl) ?_
  refine lv_aload_n hx hb d_Fo_init_5 rfl (lv_at hl 1 rfl) ?_
  refine va_putF (D := (dC, dI)) (ci := 2) (v := .ref sk) (ty := .object "PatchStore$Stock") (C := R_Fo) (T := F_Fo) (N := 1) hx hb hts i_Fo t_Fo t_Fo_ok n_Fo hown hK hP hD hS 0 rfl rfl 0 (by decide) (hts _ gw_280) (fun _ h9 => h9) rfl hin rfl (by decide +kernel) rfl rfl (Nat.le_of_ble_eq_true rfl) d_Fo_init_6 (fun H locs hP hD hS => ?_)
  have hP : va_P (dC, dI) classes [(h, .inr (2, [.ref sk]))] H := hP
  have hD : va_D A [(h, .inr (2, [.ref sk]))] := hD
  exact W.vret hx hb hr (fun t ht hW => ⟨⟨(), rfl, trivial, by rw [ht]; exact hP, va_K.moved hW.alike hK, hD⟩, hS.F ht⟩) hS.2.2 d_Fo_init_9
set_option maxHeartbeats 4000000 in
set_option maxRecDepth 100000 in
/-- m_Mk_init -/
theorem m_Mk_init (l : Launch) (dC : Nat → ClassId) (dI : Nat → Nat → Nat) (cI cB cL cZ cR : ClassId) (h : Nat) (sk : Nat) (sz : Nat) : Met l y_Mk_init ws_Mk_init ({ frames := 1, cells := 2, slots := 1000, locals := 60 }) (xw_Px dC dI [(cI, .int), (cB, .byte), (cL, .long), (cZ, .boolean), (cR, .object "PatchStore$Repository")] [.ref h, .ref sk] [(h, .inr (5, [.null, .null, .null, .int 0, .int 0]))] sz) (va_Qv (fun _ : Nat × Nat => True) (fun u t => xw_B dC dI [(cI, .int), (cB, .byte), (cL, .long), (cZ, .boolean), (cR, .object "PatchStore$Repository")] (va_A [(h, .inr (5, [.null, .null, .null, .int 0, .int 0]))] sz) [(h, .inr (5, [.ref sk, .ref u.1, .ref u.2, .int 0, .int 0])), (u.1, .inl (cI, 500, .inl (fun _ => 0))), (u.2, .inl (cI, 500, .inl (fun _ => 0)))] t) (va_A [(h, .inr (5, [.null, .null, .null, .int 0, .int 0]))] sz)) 2 1000 (va_A [(h, .inr (5, [.null, .null, .null, .int 0, .int 0]))] sz) := by
  refine Met.ofW (cc := prog_6_method_1_code) (maxL := 2) (ret := none) (by decide) rfl ?_
  intro p e s m args below meth c s₁ B hml hv
  obtain ⟨rfl, hsz, hP, hK, hD0, hN, hTh⟩ := hv
  have hx := B.exec
  have hb := B.bytes
  have hr := B.returns
  have hts0 := atoms_spec (ws := ws_Mk_init) B.pre
  have hts : ∀ w ∈ xg_1, w.before _ s = true := fun w h => hts0 w (List.mem_cons_of_mem _ h)
  have hown : s.vm.findClass "PatchStore$Maker" = some m.cls := findClass_of_methodNamed B.named
  have hlocks := B.notSynchronized
  have hin : meth.name = "<init>" := (name_of_methodNamed B.named B.method).1
  subst hsz
  have hD := hD0.self (sz := s.heap.size)
  generalize hAe : va_A [(h, .inr (5, [.null, .null, .null, .int 0, .int 0]))] s.heap.size = A at hD hTh ⊢
  have hA : ∀ q : Nat, s.heap.size ≤ q → A q := fun q h => by rw [← hAe]; exact Or.inr h
  have hS : va_S A s.heap s.heap [] := va_S.rf
  have hl := lv_entry ([.ref h, .ref sk]) (n := 2) (Nat.le_of_ble_eq_true rfl)
  rw [lg_entry_eq]
  generalize (lg_sl ([.ref h, .ref sk]) ++ List.replicate (2 - (lg_sl ([.ref h, .ref sk])).length) Slot.unset).toArray = ls at hl ⊢
  have hl : lv_has ls 2 [(0, .ref h), (1, .ref sk)] := hl
  refine lv_aload_n hx hb d_Mk_init_0 rfl (lv_at hl 0 rfl) ?_
  refine W.objInit hx hb hown (hts _ gw_445) (hts _ gw_43) (hts _ gw_44) rfl (by rw [hml]; exact hl.1) rfl d_Mk_init_1 (Nat.le_of_ble_eq_true rfl) (Nat.le_of_ble_eq_true rfl) ?_
  refine W.eq (g2 := F0 m 4 ls []) rfl ?_
  refine lv_aload_n hx hb d_Mk_init_4 rfl (lv_at hl 0 rfl) ?_
  refine lv_sipush (v := 500) hx hb d_Mk_init_5 (by decide) ?_
  refine va_newa (atype := .int) (ty := .int) (a0 := (500, .inl (fun _ => 0))) hx hb (hts _ gw_71) rfl hK hP hD hS hA (fun _ => rfl) (by decide) (N' := 500) (by decide) (by decide) (Nat.le_of_ble_eq_true rfl) (Nat.le_of_ble_eq_true rfl) d_Mk_init_8 (fun q8 cA H hK hP hD hS => ?_)
  obtain rfl : cI = cA := (xk_u 5 0 hK rfl rfl).symm
  have hK := hK.sub (tys' := [(cI, .int), (cB, .byte), (cL, .long), (cZ, .boolean), (cR, .object "PatchStore$Repository")]) [0, 1, 2, 3, 4] rfl
  have hP : va_P (dC, dI) classes [(h, .inr (5, [.null, .null, .null, .int 0, .int 0])), (q8, .inl (cI, 500, .inl (fun _ => 0)))] H := hP
  have hD : va_D A [(h, .inr (5, [.null, .null, .null, .int 0, .int 0])), (q8, .inl (cI, 500, .inl (fun _ => 0)))] := hD
  refine W.widen (k := 1) (n := 500) (Nat.le_of_ble_eq_true rfl) (Nat.le_of_ble_eq_true rfl) ?_
  refine va_putF (D := (dC, dI)) (ci := 5) (v := .ref q8) (ty := .array .int) (C := R_Mk) (T := F_Mk) (N := 5) hx hb hts i_Mk t_Mk t_Mk_ok n_Mk hown hK hP hD hS 0 rfl rfl 1 (by decide) (hts _ gw_447) (fun _ h9 => h9) rfl hin rfl (by decide +kernel) rfl rfl (Nat.le_of_ble_eq_true rfl) d_Mk_init_10 (fun H locs hP hD hS => ?_)
  have hP : va_P (dC, dI) classes [(h, .inr (5, [.null, .ref q8, .null, .int 0, .int 0])), (q8, .inl (cI, 500, .inl (fun _ => 0)))] H := hP
  have hD : va_D A [(h, .inr (5, [.null, .ref q8, .null, .int 0, .int 0])), (q8, .inl (cI, 500, .inl (fun _ => 0)))] := hD
  refine lv_aload_n hx hb d_Mk_init_13 rfl (lv_at hl 0 rfl) ?_
  refine lv_sipush (v := 500) hx hb d_Mk_init_14 (by decide) ?_
  refine va_newa (atype := .int) (ty := .int) (a0 := (500, .inl (fun _ => 0))) hx hb (hts _ gw_71) rfl hK hP hD hS hA (fun _ => rfl) (by decide) (N' := 500) (by decide) (by decide) (Nat.le_of_ble_eq_true rfl) (Nat.le_of_ble_eq_true rfl) d_Mk_init_17 (fun q17 cA H hK hP hD hS => ?_)
  obtain rfl : cI = cA := (xk_u 5 0 hK rfl rfl).symm
  have hK := hK.sub (tys' := [(cI, .int), (cB, .byte), (cL, .long), (cZ, .boolean), (cR, .object "PatchStore$Repository")]) [0, 1, 2, 3, 4] rfl
  have hP : va_P (dC, dI) classes [(h, .inr (5, [.null, .ref q8, .null, .int 0, .int 0])), (q8, .inl (cI, 500, .inl (fun _ => 0))), (q17, .inl (cI, 500, .inl (fun _ => 0)))] H := hP
  have hD : va_D A [(h, .inr (5, [.null, .ref q8, .null, .int 0, .int 0])), (q8, .inl (cI, 500, .inl (fun _ => 0))), (q17, .inl (cI, 500, .inl (fun _ => 0)))] := hD
  refine W.widen (k := 2) (n := 1000) (Nat.le_of_ble_eq_true rfl) (Nat.le_of_ble_eq_true rfl) ?_
  refine va_putF (D := (dC, dI)) (ci := 5) (v := .ref q17) (ty := .array .int) (C := R_Mk) (T := F_Mk) (N := 5) hx hb hts i_Mk t_Mk t_Mk_ok n_Mk hown hK hP hD hS 0 rfl rfl 2 (by decide) (hts _ gw_448) (fun _ h9 => h9) rfl hin rfl (by decide +kernel) rfl rfl (Nat.le_of_ble_eq_true rfl) d_Mk_init_19 (fun H locs hP hD hS => ?_)
  have hP : va_P (dC, dI) classes [(h, .inr (5, [.null, .ref q8, .ref q17, .int 0, .int 0])), (q8, .inl (cI, 500, .inl (fun _ => 0))), (q17, .inl (cI, 500, .inl (fun _ => 0)))] H := hP
  have hD : va_D A [(h, .inr (5, [.null, .ref q8, .ref q17, .int 0, .int 0])), (q8, .inl (cI, 500, .inl (fun _ => 0))), (q17, .inl (cI, 500, .inl (fun _ => 0)))] := hD
  refine lv_aload_n hx hb d_Mk_init_22 rfl (lv_at hl 0 rfl) ?_
  refine lv_aload_n hx hb d_Mk_init_23 rfl (lv_at hl 1 rfl) ?_
  refine va_putF (D := (dC, dI)) (ci := 5) (v := .ref sk) (ty := .object "PatchStore$Stock") (C := R_Mk) (T := F_Mk) (N := 5) hx hb hts i_Mk t_Mk t_Mk_ok n_Mk hown hK hP hD hS 0 rfl rfl 0 (by decide) (hts _ gw_446) (fun _ h9 => h9) rfl hin rfl (by decide +kernel) rfl rfl (Nat.le_of_ble_eq_true rfl) d_Mk_init_24 (fun H locs hP hD hS => ?_)
  have hP : va_P (dC, dI) classes [(h, .inr (5, [.ref sk, .ref q8, .ref q17, .int 0, .int 0])), (q8, .inl (cI, 500, .inl (fun _ => 0))), (q17, .inl (cI, 500, .inl (fun _ => 0)))] H := hP
  have hD : va_D A [(h, .inr (5, [.ref sk, .ref q8, .ref q17, .int 0, .int 0])), (q8, .inl (cI, 500, .inl (fun _ => 0))), (q17, .inl (cI, 500, .inl (fun _ => 0)))] := hD
  exact W.vret hx hb hr (fun t ht hW => ⟨⟨(q8, q17), rfl, trivial, by rw [ht]; exact hP, va_K.moved hW.alike hK, hD⟩, hS.F ht⟩) hS.2.2 d_Mk_init_27
set_option maxHeartbeats 4000000 in
set_option maxRecDepth 100000 in
/-- m_Vw_init -/
theorem m_Vw_init (l : Launch) (dC : Nat → ClassId) (dI : Nat → Nat → Nat) (cI cB cL cZ cR : ClassId) (h : Nat) (sk ch ln : Nat) (sk_bytes sk_from sk_firstDependency sk_firstChange sk_dependencies sk_hashes sk_byHash sk_leansOn sk_leantBy sk_patches : Value) (sz : Nat) : Met l y_Vw_init ws_Vw_init ({ frames := 1, cells := 7, slots := 72456, locals := 60 }) (xw_Px dC dI [(cI, .int), (cB, .byte), (cL, .long), (cZ, .boolean), (cR, .object "PatchStore$Repository")] [.ref h, .ref sk] [(h, .inr (11, [.null, .null, .null, .int 0, .int 0, .null, .null, .null, .int 0, .null, .int 0, .null, .null, .null])), (sk, .inr (9, [sk_bytes, sk_from, sk_firstDependency, sk_firstChange, sk_dependencies, sk_hashes, sk_byHash, sk_leansOn, sk_leantBy, .ref ch, .ref ln, sk_patches]))] sz) (va_Qv (fun _ : Nat × Nat × Nat × Nat × Nat × Nat × Nat => True) (fun u t => xw_B dC dI [(cI, .int), (cB, .byte), (cL, .long), (cZ, .boolean), (cR, .object "PatchStore$Repository")] (va_A [(h, .inr (11, [.null, .null, .null, .int 0, .int 0, .null, .null, .null, .int 0, .null, .int 0, .null, .null, .null])), (sk, .inr (9, [sk_bytes, sk_from, sk_firstDependency, sk_firstChange, sk_dependencies, sk_hashes, sk_byHash, sk_leansOn, sk_leantBy, .ref ch, .ref ln, sk_patches]))] sz) [(h, .inr (11, [.ref u.1, .ref u.2.1, .ref u.2.2.1, .int 0, .int 0, .ref sk, .ref ch, .null, .int 0, .ref u.2.2.2.1, .int 0, .ref u.2.2.2.2.1, .ref u.2.2.2.2.2.1, .ref u.2.2.2.2.2.2])), (sk, .inr (9, [sk_bytes, sk_from, sk_firstDependency, sk_firstChange, sk_dependencies, sk_hashes, sk_byHash, sk_leansOn, sk_leantBy, .ref ch, .ref ln, sk_patches])), (u.1, .inl (cI, 200, .inl (fun _ => 0))), (u.2.1, .inl (cI, 200, .inl (fun _ => 0))), (u.2.2.1, .inl (cI, 16800, .inl (fun _ => 0))), (u.2.2.2.1, .inl (cI, 38000, .inl (fun _ => 0))), (u.2.2.2.2.1, .inl (cI, 256, .inl (fun _ => 0))), (u.2.2.2.2.2.1, .inl (cI, 16800, .inl (fun _ => 0))), (u.2.2.2.2.2.2, .inl (cI, 200, .inl (fun _ => 0)))] t) (va_A [(h, .inr (11, [.null, .null, .null, .int 0, .int 0, .null, .null, .null, .int 0, .null, .int 0, .null, .null, .null])), (sk, .inr (9, [sk_bytes, sk_from, sk_firstDependency, sk_firstChange, sk_dependencies, sk_hashes, sk_byHash, sk_leansOn, sk_leantBy, .ref ch, .ref ln, sk_patches]))] sz)) 7 72456 (va_A [(h, .inr (11, [.null, .null, .null, .int 0, .int 0, .null, .null, .null, .int 0, .null, .int 0, .null, .null, .null])), (sk, .inr (9, [sk_bytes, sk_from, sk_firstDependency, sk_firstChange, sk_dependencies, sk_hashes, sk_byHash, sk_leansOn, sk_leantBy, .ref ch, .ref ln, sk_patches]))] sz) := by
  refine Met.ofW (cc := prog_12_method_1_code) (maxL := 2) (ret := none) (by decide) rfl ?_
  intro p e s m args below meth c s₁ B hml hv
  obtain ⟨rfl, hsz, hP, hK, hD0, hN, hTh⟩ := hv
  have hx := B.exec
  have hb := B.bytes
  have hr := B.returns
  have hts0 := atoms_spec (ws := ws_Vw_init) B.pre
  have hts : ∀ w ∈ xg_1, w.before _ s = true := fun w h => hts0 w (List.mem_cons_of_mem _ h)
  have hown : s.vm.findClass "PatchStore$View" = some m.cls := findClass_of_methodNamed B.named
  have hlocks := B.notSynchronized
  have hin : meth.name = "<init>" := (name_of_methodNamed B.named B.method).1
  subst hsz
  have hD := hD0.self (sz := s.heap.size)
  generalize hAe : va_A [(h, .inr (11, [.null, .null, .null, .int 0, .int 0, .null, .null, .null, .int 0, .null, .int 0, .null, .null, .null])), (sk, .inr (9, [sk_bytes, sk_from, sk_firstDependency, sk_firstChange, sk_dependencies, sk_hashes, sk_byHash, sk_leansOn, sk_leantBy, .ref ch, .ref ln, sk_patches]))] s.heap.size = A at hD hTh ⊢
  have hA : ∀ q : Nat, s.heap.size ≤ q → A q := fun q h => by rw [← hAe]; exact Or.inr h
  have hS : va_S A s.heap s.heap [] := va_S.rf
  have hl := lv_entry ([.ref h, .ref sk]) (n := 2) (Nat.le_of_ble_eq_true rfl)
  rw [lg_entry_eq]
  generalize (lg_sl ([.ref h, .ref sk]) ++ List.replicate (2 - (lg_sl ([.ref h, .ref sk])).length) Slot.unset).toArray = ls at hl ⊢
  have hl : lv_has ls 2 [(0, .ref h), (1, .ref sk)] := hl
  refine lv_aload_n hx hb d_Vw_init_0 rfl (lv_at hl 0 rfl) ?_
  refine W.objInit hx hb hown (hts _ gw_317) (hts _ gw_43) (hts _ gw_44) rfl (by rw [hml]; exact hl.1) rfl d_Vw_init_1 (Nat.le_of_ble_eq_true rfl) (Nat.le_of_ble_eq_true rfl) ?_
  refine W.eq (g2 := F0 m 4 ls []) rfl ?_
  refine lv_aload_n hx hb d_Vw_init_4 rfl (lv_at hl 0 rfl) ?_
  refine lv_sipush (v := 200) hx hb d_Vw_init_5 (by decide) ?_
  refine va_newa (atype := .int) (ty := .int) (a0 := (200, .inl (fun _ => 0))) hx hb (hts _ gw_71) rfl hK hP hD hS hA (fun _ => rfl) (by decide) (N' := 200) (by decide) (by decide) (Nat.le_of_ble_eq_true rfl) (Nat.le_of_ble_eq_true rfl) d_Vw_init_8 (fun q8 cA H hK hP hD hS => ?_)
  obtain rfl : cI = cA := (xk_u 5 0 hK rfl rfl).symm
  have hK := hK.sub (tys' := [(cI, .int), (cB, .byte), (cL, .long), (cZ, .boolean), (cR, .object "PatchStore$Repository")]) [0, 1, 2, 3, 4] rfl
  have hP : va_P (dC, dI) classes [(h, .inr (11, [.null, .null, .null, .int 0, .int 0, .null, .null, .null, .int 0, .null, .int 0, .null, .null, .null])), (sk, .inr (9, [sk_bytes, sk_from, sk_firstDependency, sk_firstChange, sk_dependencies, sk_hashes, sk_byHash, sk_leansOn, sk_leantBy, .ref ch, .ref ln, sk_patches])), (q8, .inl (cI, 200, .inl (fun _ => 0)))] H := hP
  have hD : va_D A [(h, .inr (11, [.null, .null, .null, .int 0, .int 0, .null, .null, .null, .int 0, .null, .int 0, .null, .null, .null])), (sk, .inr (9, [sk_bytes, sk_from, sk_firstDependency, sk_firstChange, sk_dependencies, sk_hashes, sk_byHash, sk_leansOn, sk_leantBy, .ref ch, .ref ln, sk_patches])), (q8, .inl (cI, 200, .inl (fun _ => 0)))] := hD
  refine W.widen (k := 1) (n := 200) (Nat.le_of_ble_eq_true rfl) (Nat.le_of_ble_eq_true rfl) ?_
  refine va_putF (D := (dC, dI)) (ci := 11) (v := .ref q8) (ty := .array .int) (C := R_Vw) (T := F_Vw) (N := 14) hx hb hts i_Vw t_Vw t_Vw_ok n_Vw hown hK hP hD hS 0 rfl rfl 0 (by decide) (hts _ gw_319) (fun _ h9 => h9) rfl hin rfl (by decide +kernel) rfl rfl (Nat.le_of_ble_eq_true rfl) d_Vw_init_10 (fun H locs hP hD hS => ?_)
  have hP : va_P (dC, dI) classes [(h, .inr (11, [.ref q8, .null, .null, .int 0, .int 0, .null, .null, .null, .int 0, .null, .int 0, .null, .null, .null])), (sk, .inr (9, [sk_bytes, sk_from, sk_firstDependency, sk_firstChange, sk_dependencies, sk_hashes, sk_byHash, sk_leansOn, sk_leantBy, .ref ch, .ref ln, sk_patches])), (q8, .inl (cI, 200, .inl (fun _ => 0)))] H := hP
  have hD : va_D A [(h, .inr (11, [.ref q8, .null, .null, .int 0, .int 0, .null, .null, .null, .int 0, .null, .int 0, .null, .null, .null])), (sk, .inr (9, [sk_bytes, sk_from, sk_firstDependency, sk_firstChange, sk_dependencies, sk_hashes, sk_byHash, sk_leansOn, sk_leantBy, .ref ch, .ref ln, sk_patches])), (q8, .inl (cI, 200, .inl (fun _ => 0)))] := hD
  refine lv_aload_n hx hb d_Vw_init_13 rfl (lv_at hl 0 rfl) ?_
  refine lv_sipush (v := 200) hx hb d_Vw_init_14 (by decide) ?_
  refine va_newa (atype := .int) (ty := .int) (a0 := (200, .inl (fun _ => 0))) hx hb (hts _ gw_71) rfl hK hP hD hS hA (fun _ => rfl) (by decide) (N' := 200) (by decide) (by decide) (Nat.le_of_ble_eq_true rfl) (Nat.le_of_ble_eq_true rfl) d_Vw_init_17 (fun q17 cA H hK hP hD hS => ?_)
  obtain rfl : cI = cA := (xk_u 5 0 hK rfl rfl).symm
  have hK := hK.sub (tys' := [(cI, .int), (cB, .byte), (cL, .long), (cZ, .boolean), (cR, .object "PatchStore$Repository")]) [0, 1, 2, 3, 4] rfl
  have hP : va_P (dC, dI) classes [(h, .inr (11, [.ref q8, .null, .null, .int 0, .int 0, .null, .null, .null, .int 0, .null, .int 0, .null, .null, .null])), (sk, .inr (9, [sk_bytes, sk_from, sk_firstDependency, sk_firstChange, sk_dependencies, sk_hashes, sk_byHash, sk_leansOn, sk_leantBy, .ref ch, .ref ln, sk_patches])), (q8, .inl (cI, 200, .inl (fun _ => 0))), (q17, .inl (cI, 200, .inl (fun _ => 0)))] H := hP
  have hD : va_D A [(h, .inr (11, [.ref q8, .null, .null, .int 0, .int 0, .null, .null, .null, .int 0, .null, .int 0, .null, .null, .null])), (sk, .inr (9, [sk_bytes, sk_from, sk_firstDependency, sk_firstChange, sk_dependencies, sk_hashes, sk_byHash, sk_leansOn, sk_leantBy, .ref ch, .ref ln, sk_patches])), (q8, .inl (cI, 200, .inl (fun _ => 0))), (q17, .inl (cI, 200, .inl (fun _ => 0)))] := hD
  refine W.widen (k := 2) (n := 400) (Nat.le_of_ble_eq_true rfl) (Nat.le_of_ble_eq_true rfl) ?_
  refine va_putF (D := (dC, dI)) (ci := 11) (v := .ref q17) (ty := .array .int) (C := R_Vw) (T := F_Vw) (N := 14) hx hb hts i_Vw t_Vw t_Vw_ok n_Vw hown hK hP hD hS 0 rfl rfl 1 (by decide) (hts _ gw_321) (fun _ h9 => h9) rfl hin rfl (by decide +kernel) rfl rfl (Nat.le_of_ble_eq_true rfl) d_Vw_init_19 (fun H locs hP hD hS => ?_)
  have hP : va_P (dC, dI) classes [(h, .inr (11, [.ref q8, .ref q17, .null, .int 0, .int 0, .null, .null, .null, .int 0, .null, .int 0, .null, .null, .null])), (sk, .inr (9, [sk_bytes, sk_from, sk_firstDependency, sk_firstChange, sk_dependencies, sk_hashes, sk_byHash, sk_leansOn, sk_leantBy, .ref ch, .ref ln, sk_patches])), (q8, .inl (cI, 200, .inl (fun _ => 0))), (q17, .inl (cI, 200, .inl (fun _ => 0)))] H := hP
  have hD : va_D A [(h, .inr (11, [.ref q8, .ref q17, .null, .int 0, .int 0, .null, .null, .null, .int 0, .null, .int 0, .null, .null, .null])), (sk, .inr (9, [sk_bytes, sk_from, sk_firstDependency, sk_firstChange, sk_dependencies, sk_hashes, sk_byHash, sk_leansOn, sk_leantBy, .ref ch, .ref ln, sk_patches])), (q8, .inl (cI, 200, .inl (fun _ => 0))), (q17, .inl (cI, 200, .inl (fun _ => 0)))] := hD
  refine lv_aload_n hx hb d_Vw_init_22 rfl (lv_at hl 0 rfl) ?_
  refine lv_sipush (v := 16800) hx hb d_Vw_init_23 (by decide) ?_
  refine va_newa (atype := .int) (ty := .int) (a0 := (16800, .inl (fun _ => 0))) hx hb (hts _ gw_71) rfl hK hP hD hS hA (fun _ => rfl) (by decide) (N' := 16800) (by decide) (by decide) (Nat.le_of_ble_eq_true rfl) (Nat.le_of_ble_eq_true rfl) d_Vw_init_26 (fun q26 cA H hK hP hD hS => ?_)
  obtain rfl : cI = cA := (xk_u 5 0 hK rfl rfl).symm
  have hK := hK.sub (tys' := [(cI, .int), (cB, .byte), (cL, .long), (cZ, .boolean), (cR, .object "PatchStore$Repository")]) [0, 1, 2, 3, 4] rfl
  have hP : va_P (dC, dI) classes [(h, .inr (11, [.ref q8, .ref q17, .null, .int 0, .int 0, .null, .null, .null, .int 0, .null, .int 0, .null, .null, .null])), (sk, .inr (9, [sk_bytes, sk_from, sk_firstDependency, sk_firstChange, sk_dependencies, sk_hashes, sk_byHash, sk_leansOn, sk_leantBy, .ref ch, .ref ln, sk_patches])), (q8, .inl (cI, 200, .inl (fun _ => 0))), (q17, .inl (cI, 200, .inl (fun _ => 0))), (q26, .inl (cI, 16800, .inl (fun _ => 0)))] H := hP
  have hD : va_D A [(h, .inr (11, [.ref q8, .ref q17, .null, .int 0, .int 0, .null, .null, .null, .int 0, .null, .int 0, .null, .null, .null])), (sk, .inr (9, [sk_bytes, sk_from, sk_firstDependency, sk_firstChange, sk_dependencies, sk_hashes, sk_byHash, sk_leansOn, sk_leantBy, .ref ch, .ref ln, sk_patches])), (q8, .inl (cI, 200, .inl (fun _ => 0))), (q17, .inl (cI, 200, .inl (fun _ => 0))), (q26, .inl (cI, 16800, .inl (fun _ => 0)))] := hD
  refine W.widen (k := 3) (n := 17200) (Nat.le_of_ble_eq_true rfl) (Nat.le_of_ble_eq_true rfl) ?_
  refine va_putF (D := (dC, dI)) (ci := 11) (v := .ref q26) (ty := .array .int) (C := R_Vw) (T := F_Vw) (N := 14) hx hb hts i_Vw t_Vw t_Vw_ok n_Vw hown hK hP hD hS 0 rfl rfl 2 (by decide) (hts _ gw_324) (fun _ h9 => h9) rfl hin rfl (by decide +kernel) rfl rfl (Nat.le_of_ble_eq_true rfl) d_Vw_init_28 (fun H locs hP hD hS => ?_)
  have hP : va_P (dC, dI) classes [(h, .inr (11, [.ref q8, .ref q17, .ref q26, .int 0, .int 0, .null, .null, .null, .int 0, .null, .int 0, .null, .null, .null])), (sk, .inr (9, [sk_bytes, sk_from, sk_firstDependency, sk_firstChange, sk_dependencies, sk_hashes, sk_byHash, sk_leansOn, sk_leantBy, .ref ch, .ref ln, sk_patches])), (q8, .inl (cI, 200, .inl (fun _ => 0))), (q17, .inl (cI, 200, .inl (fun _ => 0))), (q26, .inl (cI, 16800, .inl (fun _ => 0)))] H := hP
  have hD : va_D A [(h, .inr (11, [.ref q8, .ref q17, .ref q26, .int 0, .int 0, .null, .null, .null, .int 0, .null, .int 0, .null, .null, .null])), (sk, .inr (9, [sk_bytes, sk_from, sk_firstDependency, sk_firstChange, sk_dependencies, sk_hashes, sk_byHash, sk_leansOn, sk_leantBy, .ref ch, .ref ln, sk_patches])), (q8, .inl (cI, 200, .inl (fun _ => 0))), (q17, .inl (cI, 200, .inl (fun _ => 0))), (q26, .inl (cI, 16800, .inl (fun _ => 0)))] := hD
  refine lv_aload_n hx hb d_Vw_init_31 rfl (lv_at hl 0 rfl) ?_
  refine lv_ldc (own := "PatchStore$View") hx hb hown (hts _ gw_318) d_Vw_init_32 ?_
  refine va_newa (atype := .int) (ty := .int) (a0 := (38000, .inl (fun _ => 0))) hx hb (hts _ gw_71) rfl hK hP hD hS hA (fun _ => rfl) (by decide) (N' := 38000) (by decide) (by decide) (Nat.le_of_ble_eq_true rfl) (Nat.le_of_ble_eq_true rfl) d_Vw_init_34 (fun q34 cA H hK hP hD hS => ?_)
  obtain rfl : cI = cA := (xk_u 5 0 hK rfl rfl).symm
  have hK := hK.sub (tys' := [(cI, .int), (cB, .byte), (cL, .long), (cZ, .boolean), (cR, .object "PatchStore$Repository")]) [0, 1, 2, 3, 4] rfl
  have hP : va_P (dC, dI) classes [(h, .inr (11, [.ref q8, .ref q17, .ref q26, .int 0, .int 0, .null, .null, .null, .int 0, .null, .int 0, .null, .null, .null])), (sk, .inr (9, [sk_bytes, sk_from, sk_firstDependency, sk_firstChange, sk_dependencies, sk_hashes, sk_byHash, sk_leansOn, sk_leantBy, .ref ch, .ref ln, sk_patches])), (q8, .inl (cI, 200, .inl (fun _ => 0))), (q17, .inl (cI, 200, .inl (fun _ => 0))), (q26, .inl (cI, 16800, .inl (fun _ => 0))), (q34, .inl (cI, 38000, .inl (fun _ => 0)))] H := hP
  have hD : va_D A [(h, .inr (11, [.ref q8, .ref q17, .ref q26, .int 0, .int 0, .null, .null, .null, .int 0, .null, .int 0, .null, .null, .null])), (sk, .inr (9, [sk_bytes, sk_from, sk_firstDependency, sk_firstChange, sk_dependencies, sk_hashes, sk_byHash, sk_leansOn, sk_leantBy, .ref ch, .ref ln, sk_patches])), (q8, .inl (cI, 200, .inl (fun _ => 0))), (q17, .inl (cI, 200, .inl (fun _ => 0))), (q26, .inl (cI, 16800, .inl (fun _ => 0))), (q34, .inl (cI, 38000, .inl (fun _ => 0)))] := hD
  refine W.widen (k := 4) (n := 55200) (Nat.le_of_ble_eq_true rfl) (Nat.le_of_ble_eq_true rfl) ?_
  refine va_putF (D := (dC, dI)) (ci := 11) (v := .ref q34) (ty := .array .int) (C := R_Vw) (T := F_Vw) (N := 14) hx hb hts i_Vw t_Vw t_Vw_ok n_Vw hown hK hP hD hS 0 rfl rfl 9 (by decide) (hts _ gw_334) (fun _ h9 => h9) rfl hin rfl (by decide +kernel) rfl rfl (Nat.le_of_ble_eq_true rfl) d_Vw_init_36 (fun H locs hP hD hS => ?_)
  have hP : va_P (dC, dI) classes [(h, .inr (11, [.ref q8, .ref q17, .ref q26, .int 0, .int 0, .null, .null, .null, .int 0, .ref q34, .int 0, .null, .null, .null])), (sk, .inr (9, [sk_bytes, sk_from, sk_firstDependency, sk_firstChange, sk_dependencies, sk_hashes, sk_byHash, sk_leansOn, sk_leantBy, .ref ch, .ref ln, sk_patches])), (q8, .inl (cI, 200, .inl (fun _ => 0))), (q17, .inl (cI, 200, .inl (fun _ => 0))), (q26, .inl (cI, 16800, .inl (fun _ => 0))), (q34, .inl (cI, 38000, .inl (fun _ => 0)))] H := hP
  have hD : va_D A [(h, .inr (11, [.ref q8, .ref q17, .ref q26, .int 0, .int 0, .null, .null, .null, .int 0, .ref q34, .int 0, .null, .null, .null])), (sk, .inr (9, [sk_bytes, sk_from, sk_firstDependency, sk_firstChange, sk_dependencies, sk_hashes, sk_byHash, sk_leansOn, sk_leantBy, .ref ch, .ref ln, sk_patches])), (q8, .inl (cI, 200, .inl (fun _ => 0))), (q17, .inl (cI, 200, .inl (fun _ => 0))), (q26, .inl (cI, 16800, .inl (fun _ => 0))), (q34, .inl (cI, 38000, .inl (fun _ => 0)))] := hD
  refine lv_aload_n hx hb d_Vw_init_39 rfl (lv_at hl 0 rfl) ?_
  refine lv_sipush (v := 256) hx hb d_Vw_init_40 (by decide) ?_
  refine va_newa (atype := .int) (ty := .int) (a0 := (256, .inl (fun _ => 0))) hx hb (hts _ gw_71) rfl hK hP hD hS hA (fun _ => rfl) (by decide) (N' := 256) (by decide) (by decide) (Nat.le_of_ble_eq_true rfl) (Nat.le_of_ble_eq_true rfl) d_Vw_init_43 (fun q43 cA H hK hP hD hS => ?_)
  obtain rfl : cI = cA := (xk_u 5 0 hK rfl rfl).symm
  have hK := hK.sub (tys' := [(cI, .int), (cB, .byte), (cL, .long), (cZ, .boolean), (cR, .object "PatchStore$Repository")]) [0, 1, 2, 3, 4] rfl
  have hP : va_P (dC, dI) classes [(h, .inr (11, [.ref q8, .ref q17, .ref q26, .int 0, .int 0, .null, .null, .null, .int 0, .ref q34, .int 0, .null, .null, .null])), (sk, .inr (9, [sk_bytes, sk_from, sk_firstDependency, sk_firstChange, sk_dependencies, sk_hashes, sk_byHash, sk_leansOn, sk_leantBy, .ref ch, .ref ln, sk_patches])), (q8, .inl (cI, 200, .inl (fun _ => 0))), (q17, .inl (cI, 200, .inl (fun _ => 0))), (q26, .inl (cI, 16800, .inl (fun _ => 0))), (q34, .inl (cI, 38000, .inl (fun _ => 0))), (q43, .inl (cI, 256, .inl (fun _ => 0)))] H := hP
  have hD : va_D A [(h, .inr (11, [.ref q8, .ref q17, .ref q26, .int 0, .int 0, .null, .null, .null, .int 0, .ref q34, .int 0, .null, .null, .null])), (sk, .inr (9, [sk_bytes, sk_from, sk_firstDependency, sk_firstChange, sk_dependencies, sk_hashes, sk_byHash, sk_leansOn, sk_leantBy, .ref ch, .ref ln, sk_patches])), (q8, .inl (cI, 200, .inl (fun _ => 0))), (q17, .inl (cI, 200, .inl (fun _ => 0))), (q26, .inl (cI, 16800, .inl (fun _ => 0))), (q34, .inl (cI, 38000, .inl (fun _ => 0))), (q43, .inl (cI, 256, .inl (fun _ => 0)))] := hD
  refine W.widen (k := 5) (n := 55456) (Nat.le_of_ble_eq_true rfl) (Nat.le_of_ble_eq_true rfl) ?_
  refine va_putF (D := (dC, dI)) (ci := 11) (v := .ref q43) (ty := .array .int) (C := R_Vw) (T := F_Vw) (N := 14) hx hb hts i_Vw t_Vw t_Vw_ok n_Vw hown hK hP hD hS 0 rfl rfl 11 (by decide) (hts _ gw_336) (fun _ h9 => h9) rfl hin rfl (by decide +kernel) rfl rfl (Nat.le_of_ble_eq_true rfl) d_Vw_init_45 (fun H locs hP hD hS => ?_)
  have hP : va_P (dC, dI) classes [(h, .inr (11, [.ref q8, .ref q17, .ref q26, .int 0, .int 0, .null, .null, .null, .int 0, .ref q34, .int 0, .ref q43, .null, .null])), (sk, .inr (9, [sk_bytes, sk_from, sk_firstDependency, sk_firstChange, sk_dependencies, sk_hashes, sk_byHash, sk_leansOn, sk_leantBy, .ref ch, .ref ln, sk_patches])), (q8, .inl (cI, 200, .inl (fun _ => 0))), (q17, .inl (cI, 200, .inl (fun _ => 0))), (q26, .inl (cI, 16800, .inl (fun _ => 0))), (q34, .inl (cI, 38000, .inl (fun _ => 0))), (q43, .inl (cI, 256, .inl (fun _ => 0)))] H := hP
  have hD : va_D A [(h, .inr (11, [.ref q8, .ref q17, .ref q26, .int 0, .int 0, .null, .null, .null, .int 0, .ref q34, .int 0, .ref q43, .null, .null])), (sk, .inr (9, [sk_bytes, sk_from, sk_firstDependency, sk_firstChange, sk_dependencies, sk_hashes, sk_byHash, sk_leansOn, sk_leantBy, .ref ch, .ref ln, sk_patches])), (q8, .inl (cI, 200, .inl (fun _ => 0))), (q17, .inl (cI, 200, .inl (fun _ => 0))), (q26, .inl (cI, 16800, .inl (fun _ => 0))), (q34, .inl (cI, 38000, .inl (fun _ => 0))), (q43, .inl (cI, 256, .inl (fun _ => 0)))] := hD
  refine lv_aload_n hx hb d_Vw_init_48 rfl (lv_at hl 0 rfl) ?_
  refine lv_sipush (v := 16800) hx hb d_Vw_init_49 (by decide) ?_
  refine va_newa (atype := .int) (ty := .int) (a0 := (16800, .inl (fun _ => 0))) hx hb (hts _ gw_71) rfl hK hP hD hS hA (fun _ => rfl) (by decide) (N' := 16800) (by decide) (by decide) (Nat.le_of_ble_eq_true rfl) (Nat.le_of_ble_eq_true rfl) d_Vw_init_52 (fun q52 cA H hK hP hD hS => ?_)
  obtain rfl : cI = cA := (xk_u 5 0 hK rfl rfl).symm
  have hK := hK.sub (tys' := [(cI, .int), (cB, .byte), (cL, .long), (cZ, .boolean), (cR, .object "PatchStore$Repository")]) [0, 1, 2, 3, 4] rfl
  have hP : va_P (dC, dI) classes [(h, .inr (11, [.ref q8, .ref q17, .ref q26, .int 0, .int 0, .null, .null, .null, .int 0, .ref q34, .int 0, .ref q43, .null, .null])), (sk, .inr (9, [sk_bytes, sk_from, sk_firstDependency, sk_firstChange, sk_dependencies, sk_hashes, sk_byHash, sk_leansOn, sk_leantBy, .ref ch, .ref ln, sk_patches])), (q8, .inl (cI, 200, .inl (fun _ => 0))), (q17, .inl (cI, 200, .inl (fun _ => 0))), (q26, .inl (cI, 16800, .inl (fun _ => 0))), (q34, .inl (cI, 38000, .inl (fun _ => 0))), (q43, .inl (cI, 256, .inl (fun _ => 0))), (q52, .inl (cI, 16800, .inl (fun _ => 0)))] H := hP
  have hD : va_D A [(h, .inr (11, [.ref q8, .ref q17, .ref q26, .int 0, .int 0, .null, .null, .null, .int 0, .ref q34, .int 0, .ref q43, .null, .null])), (sk, .inr (9, [sk_bytes, sk_from, sk_firstDependency, sk_firstChange, sk_dependencies, sk_hashes, sk_byHash, sk_leansOn, sk_leantBy, .ref ch, .ref ln, sk_patches])), (q8, .inl (cI, 200, .inl (fun _ => 0))), (q17, .inl (cI, 200, .inl (fun _ => 0))), (q26, .inl (cI, 16800, .inl (fun _ => 0))), (q34, .inl (cI, 38000, .inl (fun _ => 0))), (q43, .inl (cI, 256, .inl (fun _ => 0))), (q52, .inl (cI, 16800, .inl (fun _ => 0)))] := hD
  refine W.widen (k := 6) (n := 72256) (Nat.le_of_ble_eq_true rfl) (Nat.le_of_ble_eq_true rfl) ?_
  refine va_putF (D := (dC, dI)) (ci := 11) (v := .ref q52) (ty := .array .int) (C := R_Vw) (T := F_Vw) (N := 14) hx hb hts i_Vw t_Vw t_Vw_ok n_Vw hown hK hP hD hS 0 rfl rfl 12 (by decide) (hts _ gw_337) (fun _ h9 => h9) rfl hin rfl (by decide +kernel) rfl rfl (Nat.le_of_ble_eq_true rfl) d_Vw_init_54 (fun H locs hP hD hS => ?_)
  have hP : va_P (dC, dI) classes [(h, .inr (11, [.ref q8, .ref q17, .ref q26, .int 0, .int 0, .null, .null, .null, .int 0, .ref q34, .int 0, .ref q43, .ref q52, .null])), (sk, .inr (9, [sk_bytes, sk_from, sk_firstDependency, sk_firstChange, sk_dependencies, sk_hashes, sk_byHash, sk_leansOn, sk_leantBy, .ref ch, .ref ln, sk_patches])), (q8, .inl (cI, 200, .inl (fun _ => 0))), (q17, .inl (cI, 200, .inl (fun _ => 0))), (q26, .inl (cI, 16800, .inl (fun _ => 0))), (q34, .inl (cI, 38000, .inl (fun _ => 0))), (q43, .inl (cI, 256, .inl (fun _ => 0))), (q52, .inl (cI, 16800, .inl (fun _ => 0)))] H := hP
  have hD : va_D A [(h, .inr (11, [.ref q8, .ref q17, .ref q26, .int 0, .int 0, .null, .null, .null, .int 0, .ref q34, .int 0, .ref q43, .ref q52, .null])), (sk, .inr (9, [sk_bytes, sk_from, sk_firstDependency, sk_firstChange, sk_dependencies, sk_hashes, sk_byHash, sk_leansOn, sk_leantBy, .ref ch, .ref ln, sk_patches])), (q8, .inl (cI, 200, .inl (fun _ => 0))), (q17, .inl (cI, 200, .inl (fun _ => 0))), (q26, .inl (cI, 16800, .inl (fun _ => 0))), (q34, .inl (cI, 38000, .inl (fun _ => 0))), (q43, .inl (cI, 256, .inl (fun _ => 0))), (q52, .inl (cI, 16800, .inl (fun _ => 0)))] := hD
  refine lv_aload_n hx hb d_Vw_init_57 rfl (lv_at hl 0 rfl) ?_
  refine lv_sipush (v := 200) hx hb d_Vw_init_58 (by decide) ?_
  refine va_newa (atype := .int) (ty := .int) (a0 := (200, .inl (fun _ => 0))) hx hb (hts _ gw_71) rfl hK hP hD hS hA (fun _ => rfl) (by decide) (N' := 200) (by decide) (by decide) (Nat.le_of_ble_eq_true rfl) (Nat.le_of_ble_eq_true rfl) d_Vw_init_61 (fun q61 cA H hK hP hD hS => ?_)
  obtain rfl : cI = cA := (xk_u 5 0 hK rfl rfl).symm
  have hK := hK.sub (tys' := [(cI, .int), (cB, .byte), (cL, .long), (cZ, .boolean), (cR, .object "PatchStore$Repository")]) [0, 1, 2, 3, 4] rfl
  have hP : va_P (dC, dI) classes [(h, .inr (11, [.ref q8, .ref q17, .ref q26, .int 0, .int 0, .null, .null, .null, .int 0, .ref q34, .int 0, .ref q43, .ref q52, .null])), (sk, .inr (9, [sk_bytes, sk_from, sk_firstDependency, sk_firstChange, sk_dependencies, sk_hashes, sk_byHash, sk_leansOn, sk_leantBy, .ref ch, .ref ln, sk_patches])), (q8, .inl (cI, 200, .inl (fun _ => 0))), (q17, .inl (cI, 200, .inl (fun _ => 0))), (q26, .inl (cI, 16800, .inl (fun _ => 0))), (q34, .inl (cI, 38000, .inl (fun _ => 0))), (q43, .inl (cI, 256, .inl (fun _ => 0))), (q52, .inl (cI, 16800, .inl (fun _ => 0))), (q61, .inl (cI, 200, .inl (fun _ => 0)))] H := hP
  have hD : va_D A [(h, .inr (11, [.ref q8, .ref q17, .ref q26, .int 0, .int 0, .null, .null, .null, .int 0, .ref q34, .int 0, .ref q43, .ref q52, .null])), (sk, .inr (9, [sk_bytes, sk_from, sk_firstDependency, sk_firstChange, sk_dependencies, sk_hashes, sk_byHash, sk_leansOn, sk_leantBy, .ref ch, .ref ln, sk_patches])), (q8, .inl (cI, 200, .inl (fun _ => 0))), (q17, .inl (cI, 200, .inl (fun _ => 0))), (q26, .inl (cI, 16800, .inl (fun _ => 0))), (q34, .inl (cI, 38000, .inl (fun _ => 0))), (q43, .inl (cI, 256, .inl (fun _ => 0))), (q52, .inl (cI, 16800, .inl (fun _ => 0))), (q61, .inl (cI, 200, .inl (fun _ => 0)))] := hD
  refine W.widen (k := 7) (n := 72456) (Nat.le_of_ble_eq_true rfl) (Nat.le_of_ble_eq_true rfl) ?_
  refine va_putF (D := (dC, dI)) (ci := 11) (v := .ref q61) (ty := .array .int) (C := R_Vw) (T := F_Vw) (N := 14) hx hb hts i_Vw t_Vw t_Vw_ok n_Vw hown hK hP hD hS 0 rfl rfl 13 (by decide) (hts _ gw_338) (fun _ h9 => h9) rfl hin rfl (by decide +kernel) rfl rfl (Nat.le_of_ble_eq_true rfl) d_Vw_init_63 (fun H locs hP hD hS => ?_)
  have hP : va_P (dC, dI) classes [(h, .inr (11, [.ref q8, .ref q17, .ref q26, .int 0, .int 0, .null, .null, .null, .int 0, .ref q34, .int 0, .ref q43, .ref q52, .ref q61])), (sk, .inr (9, [sk_bytes, sk_from, sk_firstDependency, sk_firstChange, sk_dependencies, sk_hashes, sk_byHash, sk_leansOn, sk_leantBy, .ref ch, .ref ln, sk_patches])), (q8, .inl (cI, 200, .inl (fun _ => 0))), (q17, .inl (cI, 200, .inl (fun _ => 0))), (q26, .inl (cI, 16800, .inl (fun _ => 0))), (q34, .inl (cI, 38000, .inl (fun _ => 0))), (q43, .inl (cI, 256, .inl (fun _ => 0))), (q52, .inl (cI, 16800, .inl (fun _ => 0))), (q61, .inl (cI, 200, .inl (fun _ => 0)))] H := hP
  have hD : va_D A [(h, .inr (11, [.ref q8, .ref q17, .ref q26, .int 0, .int 0, .null, .null, .null, .int 0, .ref q34, .int 0, .ref q43, .ref q52, .ref q61])), (sk, .inr (9, [sk_bytes, sk_from, sk_firstDependency, sk_firstChange, sk_dependencies, sk_hashes, sk_byHash, sk_leansOn, sk_leantBy, .ref ch, .ref ln, sk_patches])), (q8, .inl (cI, 200, .inl (fun _ => 0))), (q17, .inl (cI, 200, .inl (fun _ => 0))), (q26, .inl (cI, 16800, .inl (fun _ => 0))), (q34, .inl (cI, 38000, .inl (fun _ => 0))), (q43, .inl (cI, 256, .inl (fun _ => 0))), (q52, .inl (cI, 16800, .inl (fun _ => 0))), (q61, .inl (cI, 200, .inl (fun _ => 0)))] := hD
  refine lv_aload_n hx hb d_Vw_init_66 rfl (lv_at hl 0 rfl) ?_
  refine lv_aload_n hx hb d_Vw_init_67 rfl (lv_at hl 1 rfl) ?_
  refine va_putF (D := (dC, dI)) (ci := 11) (v := .ref sk) (ty := .object "PatchStore$Stock") (C := R_Vw) (T := F_Vw) (N := 14) hx hb hts i_Vw t_Vw t_Vw_ok n_Vw hown hK hP hD hS 0 rfl rfl 5 (by decide) (hts _ gw_330) (fun _ h9 => h9) rfl hin rfl (by decide +kernel) rfl rfl (Nat.le_of_ble_eq_true rfl) d_Vw_init_68 (fun H locs hP hD hS => ?_)
  have hP : va_P (dC, dI) classes [(h, .inr (11, [.ref q8, .ref q17, .ref q26, .int 0, .int 0, .ref sk, .null, .null, .int 0, .ref q34, .int 0, .ref q43, .ref q52, .ref q61])), (sk, .inr (9, [sk_bytes, sk_from, sk_firstDependency, sk_firstChange, sk_dependencies, sk_hashes, sk_byHash, sk_leansOn, sk_leantBy, .ref ch, .ref ln, sk_patches])), (q8, .inl (cI, 200, .inl (fun _ => 0))), (q17, .inl (cI, 200, .inl (fun _ => 0))), (q26, .inl (cI, 16800, .inl (fun _ => 0))), (q34, .inl (cI, 38000, .inl (fun _ => 0))), (q43, .inl (cI, 256, .inl (fun _ => 0))), (q52, .inl (cI, 16800, .inl (fun _ => 0))), (q61, .inl (cI, 200, .inl (fun _ => 0)))] H := hP
  have hD : va_D A [(h, .inr (11, [.ref q8, .ref q17, .ref q26, .int 0, .int 0, .ref sk, .null, .null, .int 0, .ref q34, .int 0, .ref q43, .ref q52, .ref q61])), (sk, .inr (9, [sk_bytes, sk_from, sk_firstDependency, sk_firstChange, sk_dependencies, sk_hashes, sk_byHash, sk_leansOn, sk_leantBy, .ref ch, .ref ln, sk_patches])), (q8, .inl (cI, 200, .inl (fun _ => 0))), (q17, .inl (cI, 200, .inl (fun _ => 0))), (q26, .inl (cI, 16800, .inl (fun _ => 0))), (q34, .inl (cI, 38000, .inl (fun _ => 0))), (q43, .inl (cI, 256, .inl (fun _ => 0))), (q52, .inl (cI, 16800, .inl (fun _ => 0))), (q61, .inl (cI, 200, .inl (fun _ => 0)))] := hD
  refine lv_aload_n hx hb d_Vw_init_71 rfl (lv_at hl 0 rfl) ?_
  refine lv_aload_n hx hb d_Vw_init_72 rfl (lv_at hl 1 rfl) ?_
  refine va_get (D := (dC, dI)) (ci := 9) (v := .ref ch) (C := R_St) (T := F_St) (N := 12) hx hb hts i_St hown hK hP 1 rfl rfl 9 (by decide) (hts _ gw_222) (fun _ h9 => h9) rfl d_Vw_init_73 ?_
  refine va_putF (D := (dC, dI)) (ci := 11) (v := .ref ch) (ty := .object "PatchStore$Changes") (C := R_Vw) (T := F_Vw) (N := 14) hx hb hts i_Vw t_Vw t_Vw_ok n_Vw hown hK hP hD hS 0 rfl rfl 6 (by decide) (hts _ gw_331) (fun _ h9 => h9) rfl hin rfl (by decide +kernel) rfl rfl (Nat.le_of_ble_eq_true rfl) d_Vw_init_76 (fun H locs hP hD hS => ?_)
  have hP : va_P (dC, dI) classes [(h, .inr (11, [.ref q8, .ref q17, .ref q26, .int 0, .int 0, .ref sk, .ref ch, .null, .int 0, .ref q34, .int 0, .ref q43, .ref q52, .ref q61])), (sk, .inr (9, [sk_bytes, sk_from, sk_firstDependency, sk_firstChange, sk_dependencies, sk_hashes, sk_byHash, sk_leansOn, sk_leantBy, .ref ch, .ref ln, sk_patches])), (q8, .inl (cI, 200, .inl (fun _ => 0))), (q17, .inl (cI, 200, .inl (fun _ => 0))), (q26, .inl (cI, 16800, .inl (fun _ => 0))), (q34, .inl (cI, 38000, .inl (fun _ => 0))), (q43, .inl (cI, 256, .inl (fun _ => 0))), (q52, .inl (cI, 16800, .inl (fun _ => 0))), (q61, .inl (cI, 200, .inl (fun _ => 0)))] H := hP
  have hD : va_D A [(h, .inr (11, [.ref q8, .ref q17, .ref q26, .int 0, .int 0, .ref sk, .ref ch, .null, .int 0, .ref q34, .int 0, .ref q43, .ref q52, .ref q61])), (sk, .inr (9, [sk_bytes, sk_from, sk_firstDependency, sk_firstChange, sk_dependencies, sk_hashes, sk_byHash, sk_leansOn, sk_leantBy, .ref ch, .ref ln, sk_patches])), (q8, .inl (cI, 200, .inl (fun _ => 0))), (q17, .inl (cI, 200, .inl (fun _ => 0))), (q26, .inl (cI, 16800, .inl (fun _ => 0))), (q34, .inl (cI, 38000, .inl (fun _ => 0))), (q43, .inl (cI, 256, .inl (fun _ => 0))), (q52, .inl (cI, 16800, .inl (fun _ => 0))), (q61, .inl (cI, 200, .inl (fun _ => 0)))] := hD
  exact W.vret hx hb hr (fun t ht hW => ⟨⟨(q8, q17, q26, q34, q43, q52, q61), rfl, trivial, by rw [ht]; exact hP, va_K.moved hW.alike hK, hD⟩, hS.F ht⟩) hS.2.2 d_Vw_init_79
set_option maxHeartbeats 4000000 in
set_option maxRecDepth 100000 in
/-- m_Tx_init -/
theorem m_Tx_init (l : Launch) (dC : Nat → ClassId) (dI : Nat → Nat → Nat) (cI cB cL cZ cR : ClassId) (h : Nat) (sk ch ln : Nat) (sk_bytes sk_from sk_firstDependency sk_firstChange sk_dependencies sk_hashes sk_byHash sk_leansOn sk_leantBy sk_patches : Value) (sz : Nat) : Met l y_Tx_init ws_Tx_init ({ frames := 1, cells := 7, slots := 11600, locals := 60 }) (xw_Px dC dI [(cI, .int), (cB, .byte), (cL, .long), (cZ, .boolean), (cR, .object "PatchStore$Repository")] [.ref h, .ref sk] [(h, .inr (10, [.null, .int 0, .int 0, .int 0, .int 0, .int 0, .null, .null, .null, .null, .int 0, .int 0, .null, .null, .int 0, .null, .null, .null, .null])), (sk, .inr (9, [sk_bytes, sk_from, sk_firstDependency, sk_firstChange, sk_dependencies, sk_hashes, sk_byHash, sk_leansOn, sk_leantBy, .ref ch, .ref ln, sk_patches]))] sz) (va_Qv (fun _ : Nat × Nat × Nat × Nat × Nat × Nat × Nat => True) (fun u t => xw_B dC dI [(cI, .int), (cB, .byte), (cL, .long), (cZ, .boolean), (cR, .object "PatchStore$Repository")] (va_A [(h, .inr (10, [.null, .int 0, .int 0, .int 0, .int 0, .int 0, .null, .null, .null, .null, .int 0, .int 0, .null, .null, .int 0, .null, .null, .null, .null])), (sk, .inr (9, [sk_bytes, sk_from, sk_firstDependency, sk_firstChange, sk_dependencies, sk_hashes, sk_byHash, sk_leansOn, sk_leantBy, .ref ch, .ref ln, sk_patches]))] sz) [(h, .inr (10, [.ref u.1, .int 0, .int 0, .int 0, .int 0, .int 0, .ref sk, .ref ch, .ref ln, .null, .int 0, .int 0, .ref u.2.1, .ref u.2.2.1, .int 0, .ref u.2.2.2.1, .ref u.2.2.2.2.1, .ref u.2.2.2.2.2.1, .ref u.2.2.2.2.2.2])), (sk, .inr (9, [sk_bytes, sk_from, sk_firstDependency, sk_firstChange, sk_dependencies, sk_hashes, sk_byHash, sk_leansOn, sk_leantBy, .ref ch, .ref ln, sk_patches])), (u.1, .inl (cI, 400, .inl (fun _ => 0))), (u.2.1, .inl (cI, 400, .inl (fun _ => 0))), (u.2.2.1, .inl (cI, 4000, .inl (fun _ => 0))), (u.2.2.2.1, .inl (cL, 2800, .inr (.inl (fun _ => 0)))), (u.2.2.2.2.1, .inl (cL, 3200, .inr (.inl (fun _ => 0)))), (u.2.2.2.2.2.1, .inl (cI, 400, .inl (fun _ => 0))), (u.2.2.2.2.2.2, .inl (cI, 400, .inl (fun _ => 0)))] t) (va_A [(h, .inr (10, [.null, .int 0, .int 0, .int 0, .int 0, .int 0, .null, .null, .null, .null, .int 0, .int 0, .null, .null, .int 0, .null, .null, .null, .null])), (sk, .inr (9, [sk_bytes, sk_from, sk_firstDependency, sk_firstChange, sk_dependencies, sk_hashes, sk_byHash, sk_leansOn, sk_leantBy, .ref ch, .ref ln, sk_patches]))] sz)) 7 11600 (va_A [(h, .inr (10, [.null, .int 0, .int 0, .int 0, .int 0, .int 0, .null, .null, .null, .null, .int 0, .int 0, .null, .null, .int 0, .null, .null, .null, .null])), (sk, .inr (9, [sk_bytes, sk_from, sk_firstDependency, sk_firstChange, sk_dependencies, sk_hashes, sk_byHash, sk_leansOn, sk_leantBy, .ref ch, .ref ln, sk_patches]))] sz) := by
  refine Met.ofW (cc := prog_11_method_1_code) (maxL := 2) (ret := none) (by decide) rfl ?_
  intro p e s m args below meth c s₁ B hml hv
  obtain ⟨rfl, hsz, hP, hK, hD0, hN, hTh⟩ := hv
  have hx := B.exec
  have hb := B.bytes
  have hr := B.returns
  have hts0 := atoms_spec (ws := ws_Tx_init) B.pre
  have hts : ∀ w ∈ xg_1, w.before _ s = true := fun w h => hts0 w (List.mem_cons_of_mem _ h)
  have hown : s.vm.findClass "PatchStore$Text" = some m.cls := findClass_of_methodNamed B.named
  have hlocks := B.notSynchronized
  have hin : meth.name = "<init>" := (name_of_methodNamed B.named B.method).1
  subst hsz
  have hD := hD0.self (sz := s.heap.size)
  generalize hAe : va_A [(h, .inr (10, [.null, .int 0, .int 0, .int 0, .int 0, .int 0, .null, .null, .null, .null, .int 0, .int 0, .null, .null, .int 0, .null, .null, .null, .null])), (sk, .inr (9, [sk_bytes, sk_from, sk_firstDependency, sk_firstChange, sk_dependencies, sk_hashes, sk_byHash, sk_leansOn, sk_leantBy, .ref ch, .ref ln, sk_patches]))] s.heap.size = A at hD hTh ⊢
  have hA : ∀ q : Nat, s.heap.size ≤ q → A q := fun q h => by rw [← hAe]; exact Or.inr h
  have hS : va_S A s.heap s.heap [] := va_S.rf
  have hl := lv_entry ([.ref h, .ref sk]) (n := 2) (Nat.le_of_ble_eq_true rfl)
  rw [lg_entry_eq]
  generalize (lg_sl ([.ref h, .ref sk]) ++ List.replicate (2 - (lg_sl ([.ref h, .ref sk])).length) Slot.unset).toArray = ls at hl ⊢
  have hl : lv_has ls 2 [(0, .ref h), (1, .ref sk)] := hl
  refine lv_aload_n hx hb d_Tx_init_0 rfl (lv_at hl 0 rfl) ?_
  refine W.objInit hx hb hown (hts _ gw_373) (hts _ gw_43) (hts _ gw_44) rfl (by rw [hml]; exact hl.1) rfl d_Tx_init_1 (Nat.le_of_ble_eq_true rfl) (Nat.le_of_ble_eq_true rfl) ?_
  refine W.eq (g2 := F0 m 4 ls []) rfl ?_
  refine lv_aload_n hx hb d_Tx_init_4 rfl (lv_at hl 0 rfl) ?_
  refine lv_sipush (v := 400) hx hb d_Tx_init_5 (by decide) ?_
  refine va_newa (atype := .int) (ty := .int) (a0 := (400, .inl (fun _ => 0))) hx hb (hts _ gw_71) rfl hK hP hD hS hA (fun _ => rfl) (by decide) (N' := 400) (by decide) (by decide) (Nat.le_of_ble_eq_true rfl) (Nat.le_of_ble_eq_true rfl) d_Tx_init_8 (fun q8 cA H hK hP hD hS => ?_)
  obtain rfl : cI = cA := (xk_u 5 0 hK rfl rfl).symm
  have hK := hK.sub (tys' := [(cI, .int), (cB, .byte), (cL, .long), (cZ, .boolean), (cR, .object "PatchStore$Repository")]) [0, 1, 2, 3, 4] rfl
  have hP : va_P (dC, dI) classes [(h, .inr (10, [.null, .int 0, .int 0, .int 0, .int 0, .int 0, .null, .null, .null, .null, .int 0, .int 0, .null, .null, .int 0, .null, .null, .null, .null])), (sk, .inr (9, [sk_bytes, sk_from, sk_firstDependency, sk_firstChange, sk_dependencies, sk_hashes, sk_byHash, sk_leansOn, sk_leantBy, .ref ch, .ref ln, sk_patches])), (q8, .inl (cI, 400, .inl (fun _ => 0)))] H := hP
  have hD : va_D A [(h, .inr (10, [.null, .int 0, .int 0, .int 0, .int 0, .int 0, .null, .null, .null, .null, .int 0, .int 0, .null, .null, .int 0, .null, .null, .null, .null])), (sk, .inr (9, [sk_bytes, sk_from, sk_firstDependency, sk_firstChange, sk_dependencies, sk_hashes, sk_byHash, sk_leansOn, sk_leantBy, .ref ch, .ref ln, sk_patches])), (q8, .inl (cI, 400, .inl (fun _ => 0)))] := hD
  refine W.widen (k := 1) (n := 400) (Nat.le_of_ble_eq_true rfl) (Nat.le_of_ble_eq_true rfl) ?_
  refine va_putF (D := (dC, dI)) (ci := 10) (v := .ref q8) (ty := .array .int) (C := R_Tx) (T := F_Tx) (N := 19) hx hb hts i_Tx t_Tx t_Tx_ok n_Tx hown hK hP hD hS 0 rfl rfl 0 (by decide) (hts _ gw_374) (fun _ h9 => h9) rfl hin rfl (by decide +kernel) rfl rfl (Nat.le_of_ble_eq_true rfl) d_Tx_init_10 (fun H locs hP hD hS => ?_)
  have hP : va_P (dC, dI) classes [(h, .inr (10, [.ref q8, .int 0, .int 0, .int 0, .int 0, .int 0, .null, .null, .null, .null, .int 0, .int 0, .null, .null, .int 0, .null, .null, .null, .null])), (sk, .inr (9, [sk_bytes, sk_from, sk_firstDependency, sk_firstChange, sk_dependencies, sk_hashes, sk_byHash, sk_leansOn, sk_leantBy, .ref ch, .ref ln, sk_patches])), (q8, .inl (cI, 400, .inl (fun _ => 0)))] H := hP
  have hD : va_D A [(h, .inr (10, [.ref q8, .int 0, .int 0, .int 0, .int 0, .int 0, .null, .null, .null, .null, .int 0, .int 0, .null, .null, .int 0, .null, .null, .null, .null])), (sk, .inr (9, [sk_bytes, sk_from, sk_firstDependency, sk_firstChange, sk_dependencies, sk_hashes, sk_byHash, sk_leansOn, sk_leantBy, .ref ch, .ref ln, sk_patches])), (q8, .inl (cI, 400, .inl (fun _ => 0)))] := hD
  refine lv_aload_n hx hb d_Tx_init_13 rfl (lv_at hl 0 rfl) ?_
  refine lv_sipush (v := 400) hx hb d_Tx_init_14 (by decide) ?_
  refine va_newa (atype := .int) (ty := .int) (a0 := (400, .inl (fun _ => 0))) hx hb (hts _ gw_71) rfl hK hP hD hS hA (fun _ => rfl) (by decide) (N' := 400) (by decide) (by decide) (Nat.le_of_ble_eq_true rfl) (Nat.le_of_ble_eq_true rfl) d_Tx_init_17 (fun q17 cA H hK hP hD hS => ?_)
  obtain rfl : cI = cA := (xk_u 5 0 hK rfl rfl).symm
  have hK := hK.sub (tys' := [(cI, .int), (cB, .byte), (cL, .long), (cZ, .boolean), (cR, .object "PatchStore$Repository")]) [0, 1, 2, 3, 4] rfl
  have hP : va_P (dC, dI) classes [(h, .inr (10, [.ref q8, .int 0, .int 0, .int 0, .int 0, .int 0, .null, .null, .null, .null, .int 0, .int 0, .null, .null, .int 0, .null, .null, .null, .null])), (sk, .inr (9, [sk_bytes, sk_from, sk_firstDependency, sk_firstChange, sk_dependencies, sk_hashes, sk_byHash, sk_leansOn, sk_leantBy, .ref ch, .ref ln, sk_patches])), (q8, .inl (cI, 400, .inl (fun _ => 0))), (q17, .inl (cI, 400, .inl (fun _ => 0)))] H := hP
  have hD : va_D A [(h, .inr (10, [.ref q8, .int 0, .int 0, .int 0, .int 0, .int 0, .null, .null, .null, .null, .int 0, .int 0, .null, .null, .int 0, .null, .null, .null, .null])), (sk, .inr (9, [sk_bytes, sk_from, sk_firstDependency, sk_firstChange, sk_dependencies, sk_hashes, sk_byHash, sk_leansOn, sk_leantBy, .ref ch, .ref ln, sk_patches])), (q8, .inl (cI, 400, .inl (fun _ => 0))), (q17, .inl (cI, 400, .inl (fun _ => 0)))] := hD
  refine W.widen (k := 2) (n := 800) (Nat.le_of_ble_eq_true rfl) (Nat.le_of_ble_eq_true rfl) ?_
  refine va_putF (D := (dC, dI)) (ci := 10) (v := .ref q17) (ty := .array .int) (C := R_Tx) (T := F_Tx) (N := 19) hx hb hts i_Tx t_Tx t_Tx_ok n_Tx hown hK hP hD hS 0 rfl rfl 12 (by decide) (hts _ gw_394) (fun _ h9 => h9) rfl hin rfl (by decide +kernel) rfl rfl (Nat.le_of_ble_eq_true rfl) d_Tx_init_19 (fun H locs hP hD hS => ?_)
  have hP : va_P (dC, dI) classes [(h, .inr (10, [.ref q8, .int 0, .int 0, .int 0, .int 0, .int 0, .null, .null, .null, .null, .int 0, .int 0, .ref q17, .null, .int 0, .null, .null, .null, .null])), (sk, .inr (9, [sk_bytes, sk_from, sk_firstDependency, sk_firstChange, sk_dependencies, sk_hashes, sk_byHash, sk_leansOn, sk_leantBy, .ref ch, .ref ln, sk_patches])), (q8, .inl (cI, 400, .inl (fun _ => 0))), (q17, .inl (cI, 400, .inl (fun _ => 0)))] H := hP
  have hD : va_D A [(h, .inr (10, [.ref q8, .int 0, .int 0, .int 0, .int 0, .int 0, .null, .null, .null, .null, .int 0, .int 0, .ref q17, .null, .int 0, .null, .null, .null, .null])), (sk, .inr (9, [sk_bytes, sk_from, sk_firstDependency, sk_firstChange, sk_dependencies, sk_hashes, sk_byHash, sk_leansOn, sk_leantBy, .ref ch, .ref ln, sk_patches])), (q8, .inl (cI, 400, .inl (fun _ => 0))), (q17, .inl (cI, 400, .inl (fun _ => 0)))] := hD
  refine lv_aload_n hx hb d_Tx_init_22 rfl (lv_at hl 0 rfl) ?_
  refine lv_sipush (v := 4000) hx hb d_Tx_init_23 (by decide) ?_
  refine va_newa (atype := .int) (ty := .int) (a0 := (4000, .inl (fun _ => 0))) hx hb (hts _ gw_71) rfl hK hP hD hS hA (fun _ => rfl) (by decide) (N' := 4000) (by decide) (by decide) (Nat.le_of_ble_eq_true rfl) (Nat.le_of_ble_eq_true rfl) d_Tx_init_26 (fun q26 cA H hK hP hD hS => ?_)
  obtain rfl : cI = cA := (xk_u 5 0 hK rfl rfl).symm
  have hK := hK.sub (tys' := [(cI, .int), (cB, .byte), (cL, .long), (cZ, .boolean), (cR, .object "PatchStore$Repository")]) [0, 1, 2, 3, 4] rfl
  have hP : va_P (dC, dI) classes [(h, .inr (10, [.ref q8, .int 0, .int 0, .int 0, .int 0, .int 0, .null, .null, .null, .null, .int 0, .int 0, .ref q17, .null, .int 0, .null, .null, .null, .null])), (sk, .inr (9, [sk_bytes, sk_from, sk_firstDependency, sk_firstChange, sk_dependencies, sk_hashes, sk_byHash, sk_leansOn, sk_leantBy, .ref ch, .ref ln, sk_patches])), (q8, .inl (cI, 400, .inl (fun _ => 0))), (q17, .inl (cI, 400, .inl (fun _ => 0))), (q26, .inl (cI, 4000, .inl (fun _ => 0)))] H := hP
  have hD : va_D A [(h, .inr (10, [.ref q8, .int 0, .int 0, .int 0, .int 0, .int 0, .null, .null, .null, .null, .int 0, .int 0, .ref q17, .null, .int 0, .null, .null, .null, .null])), (sk, .inr (9, [sk_bytes, sk_from, sk_firstDependency, sk_firstChange, sk_dependencies, sk_hashes, sk_byHash, sk_leansOn, sk_leantBy, .ref ch, .ref ln, sk_patches])), (q8, .inl (cI, 400, .inl (fun _ => 0))), (q17, .inl (cI, 400, .inl (fun _ => 0))), (q26, .inl (cI, 4000, .inl (fun _ => 0)))] := hD
  refine W.widen (k := 3) (n := 4800) (Nat.le_of_ble_eq_true rfl) (Nat.le_of_ble_eq_true rfl) ?_
  refine va_putF (D := (dC, dI)) (ci := 10) (v := .ref q26) (ty := .array .int) (C := R_Tx) (T := F_Tx) (N := 19) hx hb hts i_Tx t_Tx t_Tx_ok n_Tx hown hK hP hD hS 0 rfl rfl 13 (by decide) (hts _ gw_395) (fun _ h9 => h9) rfl hin rfl (by decide +kernel) rfl rfl (Nat.le_of_ble_eq_true rfl) d_Tx_init_28 (fun H locs hP hD hS => ?_)
  have hP : va_P (dC, dI) classes [(h, .inr (10, [.ref q8, .int 0, .int 0, .int 0, .int 0, .int 0, .null, .null, .null, .null, .int 0, .int 0, .ref q17, .ref q26, .int 0, .null, .null, .null, .null])), (sk, .inr (9, [sk_bytes, sk_from, sk_firstDependency, sk_firstChange, sk_dependencies, sk_hashes, sk_byHash, sk_leansOn, sk_leantBy, .ref ch, .ref ln, sk_patches])), (q8, .inl (cI, 400, .inl (fun _ => 0))), (q17, .inl (cI, 400, .inl (fun _ => 0))), (q26, .inl (cI, 4000, .inl (fun _ => 0)))] H := hP
  have hD : va_D A [(h, .inr (10, [.ref q8, .int 0, .int 0, .int 0, .int 0, .int 0, .null, .null, .null, .null, .int 0, .int 0, .ref q17, .ref q26, .int 0, .null, .null, .null, .null])), (sk, .inr (9, [sk_bytes, sk_from, sk_firstDependency, sk_firstChange, sk_dependencies, sk_hashes, sk_byHash, sk_leansOn, sk_leantBy, .ref ch, .ref ln, sk_patches])), (q8, .inl (cI, 400, .inl (fun _ => 0))), (q17, .inl (cI, 400, .inl (fun _ => 0))), (q26, .inl (cI, 4000, .inl (fun _ => 0)))] := hD
  refine lv_aload_n hx hb d_Tx_init_31 rfl (lv_at hl 0 rfl) ?_
  refine lv_sipush (v := 2800) hx hb d_Tx_init_32 (by decide) ?_
  refine va_newa (atype := .long) (ty := .long) (a0 := (2800, .inr (.inl (fun _ => 0)))) hx hb (hts _ gw_127) rfl hK hP hD hS hA (fun _ => rfl) (by decide) (N' := 2800) (by decide) (by decide) (Nat.le_of_ble_eq_true rfl) (Nat.le_of_ble_eq_true rfl) d_Tx_init_35 (fun q35 cA H hK hP hD hS => ?_)
  obtain rfl : cL = cA := (xk_u 5 2 hK rfl rfl).symm
  have hK := hK.sub (tys' := [(cI, .int), (cB, .byte), (cL, .long), (cZ, .boolean), (cR, .object "PatchStore$Repository")]) [0, 1, 2, 3, 4] rfl
  have hP : va_P (dC, dI) classes [(h, .inr (10, [.ref q8, .int 0, .int 0, .int 0, .int 0, .int 0, .null, .null, .null, .null, .int 0, .int 0, .ref q17, .ref q26, .int 0, .null, .null, .null, .null])), (sk, .inr (9, [sk_bytes, sk_from, sk_firstDependency, sk_firstChange, sk_dependencies, sk_hashes, sk_byHash, sk_leansOn, sk_leantBy, .ref ch, .ref ln, sk_patches])), (q8, .inl (cI, 400, .inl (fun _ => 0))), (q17, .inl (cI, 400, .inl (fun _ => 0))), (q26, .inl (cI, 4000, .inl (fun _ => 0))), (q35, .inl (cL, 2800, .inr (.inl (fun _ => 0))))] H := hP
  have hD : va_D A [(h, .inr (10, [.ref q8, .int 0, .int 0, .int 0, .int 0, .int 0, .null, .null, .null, .null, .int 0, .int 0, .ref q17, .ref q26, .int 0, .null, .null, .null, .null])), (sk, .inr (9, [sk_bytes, sk_from, sk_firstDependency, sk_firstChange, sk_dependencies, sk_hashes, sk_byHash, sk_leansOn, sk_leantBy, .ref ch, .ref ln, sk_patches])), (q8, .inl (cI, 400, .inl (fun _ => 0))), (q17, .inl (cI, 400, .inl (fun _ => 0))), (q26, .inl (cI, 4000, .inl (fun _ => 0))), (q35, .inl (cL, 2800, .inr (.inl (fun _ => 0))))] := hD
  refine W.widen (k := 4) (n := 7600) (Nat.le_of_ble_eq_true rfl) (Nat.le_of_ble_eq_true rfl) ?_
  refine va_putF (D := (dC, dI)) (ci := 10) (v := .ref q35) (ty := .array .long) (C := R_Tx) (T := F_Tx) (N := 19) hx hb hts i_Tx t_Tx t_Tx_ok n_Tx hown hK hP hD hS 0 rfl rfl 15 (by decide) (hts _ gw_397) (fun _ h9 => h9) rfl hin rfl (by decide +kernel) rfl rfl (Nat.le_of_ble_eq_true rfl) d_Tx_init_37 (fun H locs hP hD hS => ?_)
  have hP : va_P (dC, dI) classes [(h, .inr (10, [.ref q8, .int 0, .int 0, .int 0, .int 0, .int 0, .null, .null, .null, .null, .int 0, .int 0, .ref q17, .ref q26, .int 0, .ref q35, .null, .null, .null])), (sk, .inr (9, [sk_bytes, sk_from, sk_firstDependency, sk_firstChange, sk_dependencies, sk_hashes, sk_byHash, sk_leansOn, sk_leantBy, .ref ch, .ref ln, sk_patches])), (q8, .inl (cI, 400, .inl (fun _ => 0))), (q17, .inl (cI, 400, .inl (fun _ => 0))), (q26, .inl (cI, 4000, .inl (fun _ => 0))), (q35, .inl (cL, 2800, .inr (.inl (fun _ => 0))))] H := hP
  have hD : va_D A [(h, .inr (10, [.ref q8, .int 0, .int 0, .int 0, .int 0, .int 0, .null, .null, .null, .null, .int 0, .int 0, .ref q17, .ref q26, .int 0, .ref q35, .null, .null, .null])), (sk, .inr (9, [sk_bytes, sk_from, sk_firstDependency, sk_firstChange, sk_dependencies, sk_hashes, sk_byHash, sk_leansOn, sk_leantBy, .ref ch, .ref ln, sk_patches])), (q8, .inl (cI, 400, .inl (fun _ => 0))), (q17, .inl (cI, 400, .inl (fun _ => 0))), (q26, .inl (cI, 4000, .inl (fun _ => 0))), (q35, .inl (cL, 2800, .inr (.inl (fun _ => 0))))] := hD
  refine lv_aload_n hx hb d_Tx_init_40 rfl (lv_at hl 0 rfl) ?_
  refine lv_sipush (v := 3200) hx hb d_Tx_init_41 (by decide) ?_
  refine va_newa (atype := .long) (ty := .long) (a0 := (3200, .inr (.inl (fun _ => 0)))) hx hb (hts _ gw_127) rfl hK hP hD hS hA (fun _ => rfl) (by decide) (N' := 3200) (by decide) (by decide) (Nat.le_of_ble_eq_true rfl) (Nat.le_of_ble_eq_true rfl) d_Tx_init_44 (fun q44 cA H hK hP hD hS => ?_)
  obtain rfl : cL = cA := (xk_u 5 2 hK rfl rfl).symm
  have hK := hK.sub (tys' := [(cI, .int), (cB, .byte), (cL, .long), (cZ, .boolean), (cR, .object "PatchStore$Repository")]) [0, 1, 2, 3, 4] rfl
  have hP : va_P (dC, dI) classes [(h, .inr (10, [.ref q8, .int 0, .int 0, .int 0, .int 0, .int 0, .null, .null, .null, .null, .int 0, .int 0, .ref q17, .ref q26, .int 0, .ref q35, .null, .null, .null])), (sk, .inr (9, [sk_bytes, sk_from, sk_firstDependency, sk_firstChange, sk_dependencies, sk_hashes, sk_byHash, sk_leansOn, sk_leantBy, .ref ch, .ref ln, sk_patches])), (q8, .inl (cI, 400, .inl (fun _ => 0))), (q17, .inl (cI, 400, .inl (fun _ => 0))), (q26, .inl (cI, 4000, .inl (fun _ => 0))), (q35, .inl (cL, 2800, .inr (.inl (fun _ => 0)))), (q44, .inl (cL, 3200, .inr (.inl (fun _ => 0))))] H := hP
  have hD : va_D A [(h, .inr (10, [.ref q8, .int 0, .int 0, .int 0, .int 0, .int 0, .null, .null, .null, .null, .int 0, .int 0, .ref q17, .ref q26, .int 0, .ref q35, .null, .null, .null])), (sk, .inr (9, [sk_bytes, sk_from, sk_firstDependency, sk_firstChange, sk_dependencies, sk_hashes, sk_byHash, sk_leansOn, sk_leantBy, .ref ch, .ref ln, sk_patches])), (q8, .inl (cI, 400, .inl (fun _ => 0))), (q17, .inl (cI, 400, .inl (fun _ => 0))), (q26, .inl (cI, 4000, .inl (fun _ => 0))), (q35, .inl (cL, 2800, .inr (.inl (fun _ => 0)))), (q44, .inl (cL, 3200, .inr (.inl (fun _ => 0))))] := hD
  refine W.widen (k := 5) (n := 10800) (Nat.le_of_ble_eq_true rfl) (Nat.le_of_ble_eq_true rfl) ?_
  refine va_putF (D := (dC, dI)) (ci := 10) (v := .ref q44) (ty := .array .long) (C := R_Tx) (T := F_Tx) (N := 19) hx hb hts i_Tx t_Tx t_Tx_ok n_Tx hown hK hP hD hS 0 rfl rfl 16 (by decide) (hts _ gw_398) (fun _ h9 => h9) rfl hin rfl (by decide +kernel) rfl rfl (Nat.le_of_ble_eq_true rfl) d_Tx_init_46 (fun H locs hP hD hS => ?_)
  have hP : va_P (dC, dI) classes [(h, .inr (10, [.ref q8, .int 0, .int 0, .int 0, .int 0, .int 0, .null, .null, .null, .null, .int 0, .int 0, .ref q17, .ref q26, .int 0, .ref q35, .ref q44, .null, .null])), (sk, .inr (9, [sk_bytes, sk_from, sk_firstDependency, sk_firstChange, sk_dependencies, sk_hashes, sk_byHash, sk_leansOn, sk_leantBy, .ref ch, .ref ln, sk_patches])), (q8, .inl (cI, 400, .inl (fun _ => 0))), (q17, .inl (cI, 400, .inl (fun _ => 0))), (q26, .inl (cI, 4000, .inl (fun _ => 0))), (q35, .inl (cL, 2800, .inr (.inl (fun _ => 0)))), (q44, .inl (cL, 3200, .inr (.inl (fun _ => 0))))] H := hP
  have hD : va_D A [(h, .inr (10, [.ref q8, .int 0, .int 0, .int 0, .int 0, .int 0, .null, .null, .null, .null, .int 0, .int 0, .ref q17, .ref q26, .int 0, .ref q35, .ref q44, .null, .null])), (sk, .inr (9, [sk_bytes, sk_from, sk_firstDependency, sk_firstChange, sk_dependencies, sk_hashes, sk_byHash, sk_leansOn, sk_leantBy, .ref ch, .ref ln, sk_patches])), (q8, .inl (cI, 400, .inl (fun _ => 0))), (q17, .inl (cI, 400, .inl (fun _ => 0))), (q26, .inl (cI, 4000, .inl (fun _ => 0))), (q35, .inl (cL, 2800, .inr (.inl (fun _ => 0)))), (q44, .inl (cL, 3200, .inr (.inl (fun _ => 0))))] := hD
  refine lv_aload_n hx hb d_Tx_init_49 rfl (lv_at hl 0 rfl) ?_
  refine lv_sipush (v := 400) hx hb d_Tx_init_50 (by decide) ?_
  refine va_newa (atype := .int) (ty := .int) (a0 := (400, .inl (fun _ => 0))) hx hb (hts _ gw_71) rfl hK hP hD hS hA (fun _ => rfl) (by decide) (N' := 400) (by decide) (by decide) (Nat.le_of_ble_eq_true rfl) (Nat.le_of_ble_eq_true rfl) d_Tx_init_53 (fun q53 cA H hK hP hD hS => ?_)
  obtain rfl : cI = cA := (xk_u 5 0 hK rfl rfl).symm
  have hK := hK.sub (tys' := [(cI, .int), (cB, .byte), (cL, .long), (cZ, .boolean), (cR, .object "PatchStore$Repository")]) [0, 1, 2, 3, 4] rfl
  have hP : va_P (dC, dI) classes [(h, .inr (10, [.ref q8, .int 0, .int 0, .int 0, .int 0, .int 0, .null, .null, .null, .null, .int 0, .int 0, .ref q17, .ref q26, .int 0, .ref q35, .ref q44, .null, .null])), (sk, .inr (9, [sk_bytes, sk_from, sk_firstDependency, sk_firstChange, sk_dependencies, sk_hashes, sk_byHash, sk_leansOn, sk_leantBy, .ref ch, .ref ln, sk_patches])), (q8, .inl (cI, 400, .inl (fun _ => 0))), (q17, .inl (cI, 400, .inl (fun _ => 0))), (q26, .inl (cI, 4000, .inl (fun _ => 0))), (q35, .inl (cL, 2800, .inr (.inl (fun _ => 0)))), (q44, .inl (cL, 3200, .inr (.inl (fun _ => 0)))), (q53, .inl (cI, 400, .inl (fun _ => 0)))] H := hP
  have hD : va_D A [(h, .inr (10, [.ref q8, .int 0, .int 0, .int 0, .int 0, .int 0, .null, .null, .null, .null, .int 0, .int 0, .ref q17, .ref q26, .int 0, .ref q35, .ref q44, .null, .null])), (sk, .inr (9, [sk_bytes, sk_from, sk_firstDependency, sk_firstChange, sk_dependencies, sk_hashes, sk_byHash, sk_leansOn, sk_leantBy, .ref ch, .ref ln, sk_patches])), (q8, .inl (cI, 400, .inl (fun _ => 0))), (q17, .inl (cI, 400, .inl (fun _ => 0))), (q26, .inl (cI, 4000, .inl (fun _ => 0))), (q35, .inl (cL, 2800, .inr (.inl (fun _ => 0)))), (q44, .inl (cL, 3200, .inr (.inl (fun _ => 0)))), (q53, .inl (cI, 400, .inl (fun _ => 0)))] := hD
  refine W.widen (k := 6) (n := 11200) (Nat.le_of_ble_eq_true rfl) (Nat.le_of_ble_eq_true rfl) ?_
  refine va_putF (D := (dC, dI)) (ci := 10) (v := .ref q53) (ty := .array .int) (C := R_Tx) (T := F_Tx) (N := 19) hx hb hts i_Tx t_Tx t_Tx_ok n_Tx hown hK hP hD hS 0 rfl rfl 17 (by decide) (hts _ gw_399) (fun _ h9 => h9) rfl hin rfl (by decide +kernel) rfl rfl (Nat.le_of_ble_eq_true rfl) d_Tx_init_55 (fun H locs hP hD hS => ?_)
  have hP : va_P (dC, dI) classes [(h, .inr (10, [.ref q8, .int 0, .int 0, .int 0, .int 0, .int 0, .null, .null, .null, .null, .int 0, .int 0, .ref q17, .ref q26, .int 0, .ref q35, .ref q44, .ref q53, .null])), (sk, .inr (9, [sk_bytes, sk_from, sk_firstDependency, sk_firstChange, sk_dependencies, sk_hashes, sk_byHash, sk_leansOn, sk_leantBy, .ref ch, .ref ln, sk_patches])), (q8, .inl (cI, 400, .inl (fun _ => 0))), (q17, .inl (cI, 400, .inl (fun _ => 0))), (q26, .inl (cI, 4000, .inl (fun _ => 0))), (q35, .inl (cL, 2800, .inr (.inl (fun _ => 0)))), (q44, .inl (cL, 3200, .inr (.inl (fun _ => 0)))), (q53, .inl (cI, 400, .inl (fun _ => 0)))] H := hP
  have hD : va_D A [(h, .inr (10, [.ref q8, .int 0, .int 0, .int 0, .int 0, .int 0, .null, .null, .null, .null, .int 0, .int 0, .ref q17, .ref q26, .int 0, .ref q35, .ref q44, .ref q53, .null])), (sk, .inr (9, [sk_bytes, sk_from, sk_firstDependency, sk_firstChange, sk_dependencies, sk_hashes, sk_byHash, sk_leansOn, sk_leantBy, .ref ch, .ref ln, sk_patches])), (q8, .inl (cI, 400, .inl (fun _ => 0))), (q17, .inl (cI, 400, .inl (fun _ => 0))), (q26, .inl (cI, 4000, .inl (fun _ => 0))), (q35, .inl (cL, 2800, .inr (.inl (fun _ => 0)))), (q44, .inl (cL, 3200, .inr (.inl (fun _ => 0)))), (q53, .inl (cI, 400, .inl (fun _ => 0)))] := hD
  refine lv_aload_n hx hb d_Tx_init_58 rfl (lv_at hl 0 rfl) ?_
  refine lv_sipush (v := 400) hx hb d_Tx_init_59 (by decide) ?_
  refine va_newa (atype := .int) (ty := .int) (a0 := (400, .inl (fun _ => 0))) hx hb (hts _ gw_71) rfl hK hP hD hS hA (fun _ => rfl) (by decide) (N' := 400) (by decide) (by decide) (Nat.le_of_ble_eq_true rfl) (Nat.le_of_ble_eq_true rfl) d_Tx_init_62 (fun q62 cA H hK hP hD hS => ?_)
  obtain rfl : cI = cA := (xk_u 5 0 hK rfl rfl).symm
  have hK := hK.sub (tys' := [(cI, .int), (cB, .byte), (cL, .long), (cZ, .boolean), (cR, .object "PatchStore$Repository")]) [0, 1, 2, 3, 4] rfl
  have hP : va_P (dC, dI) classes [(h, .inr (10, [.ref q8, .int 0, .int 0, .int 0, .int 0, .int 0, .null, .null, .null, .null, .int 0, .int 0, .ref q17, .ref q26, .int 0, .ref q35, .ref q44, .ref q53, .null])), (sk, .inr (9, [sk_bytes, sk_from, sk_firstDependency, sk_firstChange, sk_dependencies, sk_hashes, sk_byHash, sk_leansOn, sk_leantBy, .ref ch, .ref ln, sk_patches])), (q8, .inl (cI, 400, .inl (fun _ => 0))), (q17, .inl (cI, 400, .inl (fun _ => 0))), (q26, .inl (cI, 4000, .inl (fun _ => 0))), (q35, .inl (cL, 2800, .inr (.inl (fun _ => 0)))), (q44, .inl (cL, 3200, .inr (.inl (fun _ => 0)))), (q53, .inl (cI, 400, .inl (fun _ => 0))), (q62, .inl (cI, 400, .inl (fun _ => 0)))] H := hP
  have hD : va_D A [(h, .inr (10, [.ref q8, .int 0, .int 0, .int 0, .int 0, .int 0, .null, .null, .null, .null, .int 0, .int 0, .ref q17, .ref q26, .int 0, .ref q35, .ref q44, .ref q53, .null])), (sk, .inr (9, [sk_bytes, sk_from, sk_firstDependency, sk_firstChange, sk_dependencies, sk_hashes, sk_byHash, sk_leansOn, sk_leantBy, .ref ch, .ref ln, sk_patches])), (q8, .inl (cI, 400, .inl (fun _ => 0))), (q17, .inl (cI, 400, .inl (fun _ => 0))), (q26, .inl (cI, 4000, .inl (fun _ => 0))), (q35, .inl (cL, 2800, .inr (.inl (fun _ => 0)))), (q44, .inl (cL, 3200, .inr (.inl (fun _ => 0)))), (q53, .inl (cI, 400, .inl (fun _ => 0))), (q62, .inl (cI, 400, .inl (fun _ => 0)))] := hD
  refine W.widen (k := 7) (n := 11600) (Nat.le_of_ble_eq_true rfl) (Nat.le_of_ble_eq_true rfl) ?_
  refine va_putF (D := (dC, dI)) (ci := 10) (v := .ref q62) (ty := .array .int) (C := R_Tx) (T := F_Tx) (N := 19) hx hb hts i_Tx t_Tx t_Tx_ok n_Tx hown hK hP hD hS 0 rfl rfl 18 (by decide) (hts _ gw_400) (fun _ h9 => h9) rfl hin rfl (by decide +kernel) rfl rfl (Nat.le_of_ble_eq_true rfl) d_Tx_init_64 (fun H locs hP hD hS => ?_)
  have hP : va_P (dC, dI) classes [(h, .inr (10, [.ref q8, .int 0, .int 0, .int 0, .int 0, .int 0, .null, .null, .null, .null, .int 0, .int 0, .ref q17, .ref q26, .int 0, .ref q35, .ref q44, .ref q53, .ref q62])), (sk, .inr (9, [sk_bytes, sk_from, sk_firstDependency, sk_firstChange, sk_dependencies, sk_hashes, sk_byHash, sk_leansOn, sk_leantBy, .ref ch, .ref ln, sk_patches])), (q8, .inl (cI, 400, .inl (fun _ => 0))), (q17, .inl (cI, 400, .inl (fun _ => 0))), (q26, .inl (cI, 4000, .inl (fun _ => 0))), (q35, .inl (cL, 2800, .inr (.inl (fun _ => 0)))), (q44, .inl (cL, 3200, .inr (.inl (fun _ => 0)))), (q53, .inl (cI, 400, .inl (fun _ => 0))), (q62, .inl (cI, 400, .inl (fun _ => 0)))] H := hP
  have hD : va_D A [(h, .inr (10, [.ref q8, .int 0, .int 0, .int 0, .int 0, .int 0, .null, .null, .null, .null, .int 0, .int 0, .ref q17, .ref q26, .int 0, .ref q35, .ref q44, .ref q53, .ref q62])), (sk, .inr (9, [sk_bytes, sk_from, sk_firstDependency, sk_firstChange, sk_dependencies, sk_hashes, sk_byHash, sk_leansOn, sk_leantBy, .ref ch, .ref ln, sk_patches])), (q8, .inl (cI, 400, .inl (fun _ => 0))), (q17, .inl (cI, 400, .inl (fun _ => 0))), (q26, .inl (cI, 4000, .inl (fun _ => 0))), (q35, .inl (cL, 2800, .inr (.inl (fun _ => 0)))), (q44, .inl (cL, 3200, .inr (.inl (fun _ => 0)))), (q53, .inl (cI, 400, .inl (fun _ => 0))), (q62, .inl (cI, 400, .inl (fun _ => 0)))] := hD
  refine lv_aload_n hx hb d_Tx_init_67 rfl (lv_at hl 0 rfl) ?_
  refine lv_aload_n hx hb d_Tx_init_68 rfl (lv_at hl 1 rfl) ?_
  refine va_putF (D := (dC, dI)) (ci := 10) (v := .ref sk) (ty := .object "PatchStore$Stock") (C := R_Tx) (T := F_Tx) (N := 19) hx hb hts i_Tx t_Tx t_Tx_ok n_Tx hown hK hP hD hS 0 rfl rfl 6 (by decide) (hts _ gw_388) (fun _ h9 => h9) rfl hin rfl (by decide +kernel) rfl rfl (Nat.le_of_ble_eq_true rfl) d_Tx_init_69 (fun H locs hP hD hS => ?_)
  have hP : va_P (dC, dI) classes [(h, .inr (10, [.ref q8, .int 0, .int 0, .int 0, .int 0, .int 0, .ref sk, .null, .null, .null, .int 0, .int 0, .ref q17, .ref q26, .int 0, .ref q35, .ref q44, .ref q53, .ref q62])), (sk, .inr (9, [sk_bytes, sk_from, sk_firstDependency, sk_firstChange, sk_dependencies, sk_hashes, sk_byHash, sk_leansOn, sk_leantBy, .ref ch, .ref ln, sk_patches])), (q8, .inl (cI, 400, .inl (fun _ => 0))), (q17, .inl (cI, 400, .inl (fun _ => 0))), (q26, .inl (cI, 4000, .inl (fun _ => 0))), (q35, .inl (cL, 2800, .inr (.inl (fun _ => 0)))), (q44, .inl (cL, 3200, .inr (.inl (fun _ => 0)))), (q53, .inl (cI, 400, .inl (fun _ => 0))), (q62, .inl (cI, 400, .inl (fun _ => 0)))] H := hP
  have hD : va_D A [(h, .inr (10, [.ref q8, .int 0, .int 0, .int 0, .int 0, .int 0, .ref sk, .null, .null, .null, .int 0, .int 0, .ref q17, .ref q26, .int 0, .ref q35, .ref q44, .ref q53, .ref q62])), (sk, .inr (9, [sk_bytes, sk_from, sk_firstDependency, sk_firstChange, sk_dependencies, sk_hashes, sk_byHash, sk_leansOn, sk_leantBy, .ref ch, .ref ln, sk_patches])), (q8, .inl (cI, 400, .inl (fun _ => 0))), (q17, .inl (cI, 400, .inl (fun _ => 0))), (q26, .inl (cI, 4000, .inl (fun _ => 0))), (q35, .inl (cL, 2800, .inr (.inl (fun _ => 0)))), (q44, .inl (cL, 3200, .inr (.inl (fun _ => 0)))), (q53, .inl (cI, 400, .inl (fun _ => 0))), (q62, .inl (cI, 400, .inl (fun _ => 0)))] := hD
  refine lv_aload_n hx hb d_Tx_init_72 rfl (lv_at hl 0 rfl) ?_
  refine lv_aload_n hx hb d_Tx_init_73 rfl (lv_at hl 1 rfl) ?_
  refine va_get (D := (dC, dI)) (ci := 9) (v := .ref ch) (C := R_St) (T := F_St) (N := 12) hx hb hts i_St hown hK hP 1 rfl rfl 9 (by decide) (hts _ gw_223) (fun _ h9 => h9) rfl d_Tx_init_74 ?_
  refine va_putF (D := (dC, dI)) (ci := 10) (v := .ref ch) (ty := .object "PatchStore$Changes") (C := R_Tx) (T := F_Tx) (N := 19) hx hb hts i_Tx t_Tx t_Tx_ok n_Tx hown hK hP hD hS 0 rfl rfl 7 (by decide) (hts _ gw_389) (fun _ h9 => h9) rfl hin rfl (by decide +kernel) rfl rfl (Nat.le_of_ble_eq_true rfl) d_Tx_init_77 (fun H locs hP hD hS => ?_)
  have hP : va_P (dC, dI) classes [(h, .inr (10, [.ref q8, .int 0, .int 0, .int 0, .int 0, .int 0, .ref sk, .ref ch, .null, .null, .int 0, .int 0, .ref q17, .ref q26, .int 0, .ref q35, .ref q44, .ref q53, .ref q62])), (sk, .inr (9, [sk_bytes, sk_from, sk_firstDependency, sk_firstChange, sk_dependencies, sk_hashes, sk_byHash, sk_leansOn, sk_leantBy, .ref ch, .ref ln, sk_patches])), (q8, .inl (cI, 400, .inl (fun _ => 0))), (q17, .inl (cI, 400, .inl (fun _ => 0))), (q26, .inl (cI, 4000, .inl (fun _ => 0))), (q35, .inl (cL, 2800, .inr (.inl (fun _ => 0)))), (q44, .inl (cL, 3200, .inr (.inl (fun _ => 0)))), (q53, .inl (cI, 400, .inl (fun _ => 0))), (q62, .inl (cI, 400, .inl (fun _ => 0)))] H := hP
  have hD : va_D A [(h, .inr (10, [.ref q8, .int 0, .int 0, .int 0, .int 0, .int 0, .ref sk, .ref ch, .null, .null, .int 0, .int 0, .ref q17, .ref q26, .int 0, .ref q35, .ref q44, .ref q53, .ref q62])), (sk, .inr (9, [sk_bytes, sk_from, sk_firstDependency, sk_firstChange, sk_dependencies, sk_hashes, sk_byHash, sk_leansOn, sk_leantBy, .ref ch, .ref ln, sk_patches])), (q8, .inl (cI, 400, .inl (fun _ => 0))), (q17, .inl (cI, 400, .inl (fun _ => 0))), (q26, .inl (cI, 4000, .inl (fun _ => 0))), (q35, .inl (cL, 2800, .inr (.inl (fun _ => 0)))), (q44, .inl (cL, 3200, .inr (.inl (fun _ => 0)))), (q53, .inl (cI, 400, .inl (fun _ => 0))), (q62, .inl (cI, 400, .inl (fun _ => 0)))] := hD
  refine lv_aload_n hx hb d_Tx_init_80 rfl (lv_at hl 0 rfl) ?_
  refine lv_aload_n hx hb d_Tx_init_81 rfl (lv_at hl 1 rfl) ?_
  refine va_get (D := (dC, dI)) (ci := 9) (v := .ref ln) (C := R_St) (T := F_St) (N := 12) hx hb hts i_St hown hK hP 1 rfl rfl 10 (by decide) (hts _ gw_230) (fun _ h9 => h9) rfl d_Tx_init_82 ?_
  refine va_putF (D := (dC, dI)) (ci := 10) (v := .ref ln) (ty := .object "PatchStore$Lines") (C := R_Tx) (T := F_Tx) (N := 19) hx hb hts i_Tx t_Tx t_Tx_ok n_Tx hown hK hP hD hS 0 rfl rfl 8 (by decide) (hts _ gw_390) (fun _ h9 => h9) rfl hin rfl (by decide +kernel) rfl rfl (Nat.le_of_ble_eq_true rfl) d_Tx_init_85 (fun H locs hP hD hS => ?_)
  have hP : va_P (dC, dI) classes [(h, .inr (10, [.ref q8, .int 0, .int 0, .int 0, .int 0, .int 0, .ref sk, .ref ch, .ref ln, .null, .int 0, .int 0, .ref q17, .ref q26, .int 0, .ref q35, .ref q44, .ref q53, .ref q62])), (sk, .inr (9, [sk_bytes, sk_from, sk_firstDependency, sk_firstChange, sk_dependencies, sk_hashes, sk_byHash, sk_leansOn, sk_leantBy, .ref ch, .ref ln, sk_patches])), (q8, .inl (cI, 400, .inl (fun _ => 0))), (q17, .inl (cI, 400, .inl (fun _ => 0))), (q26, .inl (cI, 4000, .inl (fun _ => 0))), (q35, .inl (cL, 2800, .inr (.inl (fun _ => 0)))), (q44, .inl (cL, 3200, .inr (.inl (fun _ => 0)))), (q53, .inl (cI, 400, .inl (fun _ => 0))), (q62, .inl (cI, 400, .inl (fun _ => 0)))] H := hP
  have hD : va_D A [(h, .inr (10, [.ref q8, .int 0, .int 0, .int 0, .int 0, .int 0, .ref sk, .ref ch, .ref ln, .null, .int 0, .int 0, .ref q17, .ref q26, .int 0, .ref q35, .ref q44, .ref q53, .ref q62])), (sk, .inr (9, [sk_bytes, sk_from, sk_firstDependency, sk_firstChange, sk_dependencies, sk_hashes, sk_byHash, sk_leansOn, sk_leantBy, .ref ch, .ref ln, sk_patches])), (q8, .inl (cI, 400, .inl (fun _ => 0))), (q17, .inl (cI, 400, .inl (fun _ => 0))), (q26, .inl (cI, 4000, .inl (fun _ => 0))), (q35, .inl (cL, 2800, .inr (.inl (fun _ => 0)))), (q44, .inl (cL, 3200, .inr (.inl (fun _ => 0)))), (q53, .inl (cI, 400, .inl (fun _ => 0))), (q62, .inl (cI, 400, .inl (fun _ => 0)))] := hD
  exact W.vret hx hb hr (fun t ht hW => ⟨⟨(q8, q17, q26, q35, q44, q53, q62), rfl, trivial, by rw [ht]; exact hP, va_K.moved hW.alike hK, hD⟩, hS.F ht⟩) hS.2.2 d_Tx_init_88
set_option maxHeartbeats 4000000 in
set_option maxRecDepth 100000 in
/-- m_Rc_init -/
theorem m_Rc_init (l : Launch) (dC : Nat → ClassId) (dI : Nat → Nat → Nat) (cI cB cL cZ cR : ClassId) (h : Nat) (sk tx mk tp : Nat) (sz : Nat) : Met l y_Rc_init ws_Rc_init ({ frames := 1, cells := 8, slots := 42201, locals := 60 }) (xw_Px dC dI [(cI, .int), (cB, .byte), (cL, .long), (cZ, .boolean), (cR, .object "PatchStore$Repository")] [.ref h, .ref sk, .ref tx, .ref mk, .ref tp] [(h, .inr (6, [.int 0, .null, .null, .null, .null, .int 0, .int 0, .null, .null, .null, .null, .null, .null, .int 0, .null, .null, .int 0]))] sz) (va_Qv (fun _ : Nat × Nat × Nat × Nat × Nat × Nat × Nat × Nat => True) (fun u t => xw_B dC dI [(cI, .int), (cB, .byte), (cL, .long), (cZ, .boolean), (cR, .object "PatchStore$Repository")] (va_A [(h, .inr (6, [.int 0, .null, .null, .null, .null, .int 0, .int 0, .null, .null, .null, .null, .null, .null, .int 0, .null, .null, .int 0]))] sz) [(h, .inr (6, [.int 0, .ref sk, .ref tx, .ref mk, .ref tp, .int 0, .int 0, .ref u.1, .ref u.2.1, .ref u.2.2.1, .ref u.2.2.2.1, .ref u.2.2.2.2.1, .ref u.2.2.2.2.2.1, .int 0, .ref u.2.2.2.2.2.2.1, .ref u.2.2.2.2.2.2.2, .int 0])), (u.1, .inl (cI, 200, .inl (fun _ => 0))), (u.2.1, .inl (cI, 200, .inl (fun _ => 0))), (u.2.2.1, .inl (cI, 400, .inl (fun _ => 0))), (u.2.2.2.1, .inl (cI, 400, .inl (fun _ => 0))), (u.2.2.2.2.1, .inl (cI, 40401, .inl (fun _ => 0))), (u.2.2.2.2.2.1, .inl (cI, 200, .inl (fun _ => 0))), (u.2.2.2.2.2.2.1, .inl (cI, 200, .inl (fun _ => 0))), (u.2.2.2.2.2.2.2, .inl (cI, 200, .inl (fun _ => 0)))] t) (va_A [(h, .inr (6, [.int 0, .null, .null, .null, .null, .int 0, .int 0, .null, .null, .null, .null, .null, .null, .int 0, .null, .null, .int 0]))] sz)) 8 42201 (va_A [(h, .inr (6, [.int 0, .null, .null, .null, .null, .int 0, .int 0, .null, .null, .null, .null, .null, .null, .int 0, .null, .null, .int 0]))] sz) := by
  refine Met.ofW (cc := prog_7_method_1_code) (maxL := 5) (ret := none) (by decide) rfl ?_
  intro p e s m args below meth c s₁ B hml hv
  obtain ⟨rfl, hsz, hP, hK, hD0, hN, hTh⟩ := hv
  have hx := B.exec
  have hb := B.bytes
  have hr := B.returns
  have hts0 := atoms_spec (ws := ws_Rc_init) B.pre
  have hts : ∀ w ∈ xg_1, w.before _ s = true := fun w h => hts0 w (List.mem_cons_of_mem _ h)
  have hown : s.vm.findClass "PatchStore$Recording" = some m.cls := findClass_of_methodNamed B.named
  have hlocks := B.notSynchronized
  have hin : meth.name = "<init>" := (name_of_methodNamed B.named B.method).1
  subst hsz
  have hD := hD0.self (sz := s.heap.size)
  generalize hAe : va_A [(h, .inr (6, [.int 0, .null, .null, .null, .null, .int 0, .int 0, .null, .null, .null, .null, .null, .null, .int 0, .null, .null, .int 0]))] s.heap.size = A at hD hTh ⊢
  have hA : ∀ q : Nat, s.heap.size ≤ q → A q := fun q h => by rw [← hAe]; exact Or.inr h
  have hS : va_S A s.heap s.heap [] := va_S.rf
  have hl := lv_entry ([.ref h, .ref sk, .ref tx, .ref mk, .ref tp]) (n := 5) (Nat.le_of_ble_eq_true rfl)
  rw [lg_entry_eq]
  generalize (lg_sl ([.ref h, .ref sk, .ref tx, .ref mk, .ref tp]) ++ List.replicate (5 - (lg_sl ([.ref h, .ref sk, .ref tx, .ref mk, .ref tp])).length) Slot.unset).toArray = ls at hl ⊢
  have hl : lv_has ls 5 [(0, .ref h), (1, .ref sk), (2, .ref tx), (3, .ref mk), (4, .ref tp)] := hl
  refine lv_aload_n hx hb d_Rc_init_0 rfl (lv_at hl 0 rfl) ?_
  refine W.objInit hx hb hown (hts _ gw_467) (hts _ gw_43) (hts _ gw_44) rfl (by rw [hml]; exact hl.1) rfl d_Rc_init_1 (Nat.le_of_ble_eq_true rfl) (Nat.le_of_ble_eq_true rfl) ?_
  refine W.eq (g2 := F0 m 4 ls []) rfl ?_
  refine lv_aload_n hx hb d_Rc_init_4 rfl (lv_at hl 0 rfl) ?_
  refine lv_sipush (v := 200) hx hb d_Rc_init_5 (by decide) ?_
  refine va_newa (atype := .int) (ty := .int) (a0 := (200, .inl (fun _ => 0))) hx hb (hts _ gw_71) rfl hK hP hD hS hA (fun _ => rfl) (by decide) (N' := 200) (by decide) (by decide) (Nat.le_of_ble_eq_true rfl) (Nat.le_of_ble_eq_true rfl) d_Rc_init_8 (fun q8 cA H hK hP hD hS => ?_)
  obtain rfl : cI = cA := (xk_u 5 0 hK rfl rfl).symm
  have hK := hK.sub (tys' := [(cI, .int), (cB, .byte), (cL, .long), (cZ, .boolean), (cR, .object "PatchStore$Repository")]) [0, 1, 2, 3, 4] rfl
  have hP : va_P (dC, dI) classes [(h, .inr (6, [.int 0, .null, .null, .null, .null, .int 0, .int 0, .null, .null, .null, .null, .null, .null, .int 0, .null, .null, .int 0])), (q8, .inl (cI, 200, .inl (fun _ => 0)))] H := hP
  have hD : va_D A [(h, .inr (6, [.int 0, .null, .null, .null, .null, .int 0, .int 0, .null, .null, .null, .null, .null, .null, .int 0, .null, .null, .int 0])), (q8, .inl (cI, 200, .inl (fun _ => 0)))] := hD
  refine W.widen (k := 1) (n := 200) (Nat.le_of_ble_eq_true rfl) (Nat.le_of_ble_eq_true rfl) ?_
  refine va_putF (D := (dC, dI)) (ci := 6) (v := .ref q8) (ty := .array .int) (C := R_Rc) (T := F_Rc) (N := 17) hx hb hts i_Rc t_Rc t_Rc_ok n_Rc hown hK hP hD hS 0 rfl rfl 7 (by decide) (hts _ gw_477) (fun _ h9 => h9) rfl hin rfl (by decide +kernel) rfl rfl (Nat.le_of_ble_eq_true rfl) d_Rc_init_10 (fun H locs hP hD hS => ?_)
  have hP : va_P (dC, dI) classes [(h, .inr (6, [.int 0, .null, .null, .null, .null, .int 0, .int 0, .ref q8, .null, .null, .null, .null, .null, .int 0, .null, .null, .int 0])), (q8, .inl (cI, 200, .inl (fun _ => 0)))] H := hP
  have hD : va_D A [(h, .inr (6, [.int 0, .null, .null, .null, .null, .int 0, .int 0, .ref q8, .null, .null, .null, .null, .null, .int 0, .null, .null, .int 0])), (q8, .inl (cI, 200, .inl (fun _ => 0)))] := hD
  refine lv_aload_n hx hb d_Rc_init_13 rfl (lv_at hl 0 rfl) ?_
  refine lv_sipush (v := 200) hx hb d_Rc_init_14 (by decide) ?_
  refine va_newa (atype := .int) (ty := .int) (a0 := (200, .inl (fun _ => 0))) hx hb (hts _ gw_71) rfl hK hP hD hS hA (fun _ => rfl) (by decide) (N' := 200) (by decide) (by decide) (Nat.le_of_ble_eq_true rfl) (Nat.le_of_ble_eq_true rfl) d_Rc_init_17 (fun q17 cA H hK hP hD hS => ?_)
  obtain rfl : cI = cA := (xk_u 5 0 hK rfl rfl).symm
  have hK := hK.sub (tys' := [(cI, .int), (cB, .byte), (cL, .long), (cZ, .boolean), (cR, .object "PatchStore$Repository")]) [0, 1, 2, 3, 4] rfl
  have hP : va_P (dC, dI) classes [(h, .inr (6, [.int 0, .null, .null, .null, .null, .int 0, .int 0, .ref q8, .null, .null, .null, .null, .null, .int 0, .null, .null, .int 0])), (q8, .inl (cI, 200, .inl (fun _ => 0))), (q17, .inl (cI, 200, .inl (fun _ => 0)))] H := hP
  have hD : va_D A [(h, .inr (6, [.int 0, .null, .null, .null, .null, .int 0, .int 0, .ref q8, .null, .null, .null, .null, .null, .int 0, .null, .null, .int 0])), (q8, .inl (cI, 200, .inl (fun _ => 0))), (q17, .inl (cI, 200, .inl (fun _ => 0)))] := hD
  refine W.widen (k := 2) (n := 400) (Nat.le_of_ble_eq_true rfl) (Nat.le_of_ble_eq_true rfl) ?_
  refine va_putF (D := (dC, dI)) (ci := 6) (v := .ref q17) (ty := .array .int) (C := R_Rc) (T := F_Rc) (N := 17) hx hb hts i_Rc t_Rc t_Rc_ok n_Rc hown hK hP hD hS 0 rfl rfl 8 (by decide) (hts _ gw_478) (fun _ h9 => h9) rfl hin rfl (by decide +kernel) rfl rfl (Nat.le_of_ble_eq_true rfl) d_Rc_init_19 (fun H locs hP hD hS => ?_)
  have hP : va_P (dC, dI) classes [(h, .inr (6, [.int 0, .null, .null, .null, .null, .int 0, .int 0, .ref q8, .ref q17, .null, .null, .null, .null, .int 0, .null, .null, .int 0])), (q8, .inl (cI, 200, .inl (fun _ => 0))), (q17, .inl (cI, 200, .inl (fun _ => 0)))] H := hP
  have hD : va_D A [(h, .inr (6, [.int 0, .null, .null, .null, .null, .int 0, .int 0, .ref q8, .ref q17, .null, .null, .null, .null, .int 0, .null, .null, .int 0])), (q8, .inl (cI, 200, .inl (fun _ => 0))), (q17, .inl (cI, 200, .inl (fun _ => 0)))] := hD
  refine lv_aload_n hx hb d_Rc_init_22 rfl (lv_at hl 0 rfl) ?_
  refine lv_sipush (v := 400) hx hb d_Rc_init_23 (by decide) ?_
  refine va_newa (atype := .int) (ty := .int) (a0 := (400, .inl (fun _ => 0))) hx hb (hts _ gw_71) rfl hK hP hD hS hA (fun _ => rfl) (by decide) (N' := 400) (by decide) (by decide) (Nat.le_of_ble_eq_true rfl) (Nat.le_of_ble_eq_true rfl) d_Rc_init_26 (fun q26 cA H hK hP hD hS => ?_)
  obtain rfl : cI = cA := (xk_u 5 0 hK rfl rfl).symm
  have hK := hK.sub (tys' := [(cI, .int), (cB, .byte), (cL, .long), (cZ, .boolean), (cR, .object "PatchStore$Repository")]) [0, 1, 2, 3, 4] rfl
  have hP : va_P (dC, dI) classes [(h, .inr (6, [.int 0, .null, .null, .null, .null, .int 0, .int 0, .ref q8, .ref q17, .null, .null, .null, .null, .int 0, .null, .null, .int 0])), (q8, .inl (cI, 200, .inl (fun _ => 0))), (q17, .inl (cI, 200, .inl (fun _ => 0))), (q26, .inl (cI, 400, .inl (fun _ => 0)))] H := hP
  have hD : va_D A [(h, .inr (6, [.int 0, .null, .null, .null, .null, .int 0, .int 0, .ref q8, .ref q17, .null, .null, .null, .null, .int 0, .null, .null, .int 0])), (q8, .inl (cI, 200, .inl (fun _ => 0))), (q17, .inl (cI, 200, .inl (fun _ => 0))), (q26, .inl (cI, 400, .inl (fun _ => 0)))] := hD
  refine W.widen (k := 3) (n := 800) (Nat.le_of_ble_eq_true rfl) (Nat.le_of_ble_eq_true rfl) ?_
  refine va_putF (D := (dC, dI)) (ci := 6) (v := .ref q26) (ty := .array .int) (C := R_Rc) (T := F_Rc) (N := 17) hx hb hts i_Rc t_Rc t_Rc_ok n_Rc hown hK hP hD hS 0 rfl rfl 9 (by decide) (hts _ gw_479) (fun _ h9 => h9) rfl hin rfl (by decide +kernel) rfl rfl (Nat.le_of_ble_eq_true rfl) d_Rc_init_28 (fun H locs hP hD hS => ?_)
  have hP : va_P (dC, dI) classes [(h, .inr (6, [.int 0, .null, .null, .null, .null, .int 0, .int 0, .ref q8, .ref q17, .ref q26, .null, .null, .null, .int 0, .null, .null, .int 0])), (q8, .inl (cI, 200, .inl (fun _ => 0))), (q17, .inl (cI, 200, .inl (fun _ => 0))), (q26, .inl (cI, 400, .inl (fun _ => 0)))] H := hP
  have hD : va_D A [(h, .inr (6, [.int 0, .null, .null, .null, .null, .int 0, .int 0, .ref q8, .ref q17, .ref q26, .null, .null, .null, .int 0, .null, .null, .int 0])), (q8, .inl (cI, 200, .inl (fun _ => 0))), (q17, .inl (cI, 200, .inl (fun _ => 0))), (q26, .inl (cI, 400, .inl (fun _ => 0)))] := hD
  refine lv_aload_n hx hb d_Rc_init_31 rfl (lv_at hl 0 rfl) ?_
  refine lv_sipush (v := 400) hx hb d_Rc_init_32 (by decide) ?_
  refine va_newa (atype := .int) (ty := .int) (a0 := (400, .inl (fun _ => 0))) hx hb (hts _ gw_71) rfl hK hP hD hS hA (fun _ => rfl) (by decide) (N' := 400) (by decide) (by decide) (Nat.le_of_ble_eq_true rfl) (Nat.le_of_ble_eq_true rfl) d_Rc_init_35 (fun q35 cA H hK hP hD hS => ?_)
  obtain rfl : cI = cA := (xk_u 5 0 hK rfl rfl).symm
  have hK := hK.sub (tys' := [(cI, .int), (cB, .byte), (cL, .long), (cZ, .boolean), (cR, .object "PatchStore$Repository")]) [0, 1, 2, 3, 4] rfl
  have hP : va_P (dC, dI) classes [(h, .inr (6, [.int 0, .null, .null, .null, .null, .int 0, .int 0, .ref q8, .ref q17, .ref q26, .null, .null, .null, .int 0, .null, .null, .int 0])), (q8, .inl (cI, 200, .inl (fun _ => 0))), (q17, .inl (cI, 200, .inl (fun _ => 0))), (q26, .inl (cI, 400, .inl (fun _ => 0))), (q35, .inl (cI, 400, .inl (fun _ => 0)))] H := hP
  have hD : va_D A [(h, .inr (6, [.int 0, .null, .null, .null, .null, .int 0, .int 0, .ref q8, .ref q17, .ref q26, .null, .null, .null, .int 0, .null, .null, .int 0])), (q8, .inl (cI, 200, .inl (fun _ => 0))), (q17, .inl (cI, 200, .inl (fun _ => 0))), (q26, .inl (cI, 400, .inl (fun _ => 0))), (q35, .inl (cI, 400, .inl (fun _ => 0)))] := hD
  refine W.widen (k := 4) (n := 1200) (Nat.le_of_ble_eq_true rfl) (Nat.le_of_ble_eq_true rfl) ?_
  refine va_putF (D := (dC, dI)) (ci := 6) (v := .ref q35) (ty := .array .int) (C := R_Rc) (T := F_Rc) (N := 17) hx hb hts i_Rc t_Rc t_Rc_ok n_Rc hown hK hP hD hS 0 rfl rfl 10 (by decide) (hts _ gw_480) (fun _ h9 => h9) rfl hin rfl (by decide +kernel) rfl rfl (Nat.le_of_ble_eq_true rfl) d_Rc_init_37 (fun H locs hP hD hS => ?_)
  have hP : va_P (dC, dI) classes [(h, .inr (6, [.int 0, .null, .null, .null, .null, .int 0, .int 0, .ref q8, .ref q17, .ref q26, .ref q35, .null, .null, .int 0, .null, .null, .int 0])), (q8, .inl (cI, 200, .inl (fun _ => 0))), (q17, .inl (cI, 200, .inl (fun _ => 0))), (q26, .inl (cI, 400, .inl (fun _ => 0))), (q35, .inl (cI, 400, .inl (fun _ => 0)))] H := hP
  have hD : va_D A [(h, .inr (6, [.int 0, .null, .null, .null, .null, .int 0, .int 0, .ref q8, .ref q17, .ref q26, .ref q35, .null, .null, .int 0, .null, .null, .int 0])), (q8, .inl (cI, 200, .inl (fun _ => 0))), (q17, .inl (cI, 200, .inl (fun _ => 0))), (q26, .inl (cI, 400, .inl (fun _ => 0))), (q35, .inl (cI, 400, .inl (fun _ => 0)))] := hD
  refine lv_aload_n hx hb d_Rc_init_40 rfl (lv_at hl 0 rfl) ?_
  refine lv_ldc (own := "PatchStore$Recording") hx hb hown (hts _ gw_468) d_Rc_init_41 ?_
  refine va_newa (atype := .int) (ty := .int) (a0 := (40401, .inl (fun _ => 0))) hx hb (hts _ gw_71) rfl hK hP hD hS hA (fun _ => rfl) (by decide) (N' := 40401) (by decide) (by decide) (Nat.le_of_ble_eq_true rfl) (Nat.le_of_ble_eq_true rfl) d_Rc_init_43 (fun q43 cA H hK hP hD hS => ?_)
  obtain rfl : cI = cA := (xk_u 5 0 hK rfl rfl).symm
  have hK := hK.sub (tys' := [(cI, .int), (cB, .byte), (cL, .long), (cZ, .boolean), (cR, .object "PatchStore$Repository")]) [0, 1, 2, 3, 4] rfl
  have hP : va_P (dC, dI) classes [(h, .inr (6, [.int 0, .null, .null, .null, .null, .int 0, .int 0, .ref q8, .ref q17, .ref q26, .ref q35, .null, .null, .int 0, .null, .null, .int 0])), (q8, .inl (cI, 200, .inl (fun _ => 0))), (q17, .inl (cI, 200, .inl (fun _ => 0))), (q26, .inl (cI, 400, .inl (fun _ => 0))), (q35, .inl (cI, 400, .inl (fun _ => 0))), (q43, .inl (cI, 40401, .inl (fun _ => 0)))] H := hP
  have hD : va_D A [(h, .inr (6, [.int 0, .null, .null, .null, .null, .int 0, .int 0, .ref q8, .ref q17, .ref q26, .ref q35, .null, .null, .int 0, .null, .null, .int 0])), (q8, .inl (cI, 200, .inl (fun _ => 0))), (q17, .inl (cI, 200, .inl (fun _ => 0))), (q26, .inl (cI, 400, .inl (fun _ => 0))), (q35, .inl (cI, 400, .inl (fun _ => 0))), (q43, .inl (cI, 40401, .inl (fun _ => 0)))] := hD
  refine W.widen (k := 5) (n := 41601) (Nat.le_of_ble_eq_true rfl) (Nat.le_of_ble_eq_true rfl) ?_
  refine va_putF (D := (dC, dI)) (ci := 6) (v := .ref q43) (ty := .array .int) (C := R_Rc) (T := F_Rc) (N := 17) hx hb hts i_Rc t_Rc t_Rc_ok n_Rc hown hK hP hD hS 0 rfl rfl 11 (by decide) (hts _ gw_481) (fun _ h9 => h9) rfl hin rfl (by decide +kernel) rfl rfl (Nat.le_of_ble_eq_true rfl) d_Rc_init_45 (fun H locs hP hD hS => ?_)
  have hP : va_P (dC, dI) classes [(h, .inr (6, [.int 0, .null, .null, .null, .null, .int 0, .int 0, .ref q8, .ref q17, .ref q26, .ref q35, .ref q43, .null, .int 0, .null, .null, .int 0])), (q8, .inl (cI, 200, .inl (fun _ => 0))), (q17, .inl (cI, 200, .inl (fun _ => 0))), (q26, .inl (cI, 400, .inl (fun _ => 0))), (q35, .inl (cI, 400, .inl (fun _ => 0))), (q43, .inl (cI, 40401, .inl (fun _ => 0)))] H := hP
  have hD : va_D A [(h, .inr (6, [.int 0, .null, .null, .null, .null, .int 0, .int 0, .ref q8, .ref q17, .ref q26, .ref q35, .ref q43, .null, .int 0, .null, .null, .int 0])), (q8, .inl (cI, 200, .inl (fun _ => 0))), (q17, .inl (cI, 200, .inl (fun _ => 0))), (q26, .inl (cI, 400, .inl (fun _ => 0))), (q35, .inl (cI, 400, .inl (fun _ => 0))), (q43, .inl (cI, 40401, .inl (fun _ => 0)))] := hD
  refine lv_aload_n hx hb d_Rc_init_48 rfl (lv_at hl 0 rfl) ?_
  refine lv_sipush (v := 200) hx hb d_Rc_init_49 (by decide) ?_
  refine va_newa (atype := .int) (ty := .int) (a0 := (200, .inl (fun _ => 0))) hx hb (hts _ gw_71) rfl hK hP hD hS hA (fun _ => rfl) (by decide) (N' := 200) (by decide) (by decide) (Nat.le_of_ble_eq_true rfl) (Nat.le_of_ble_eq_true rfl) d_Rc_init_52 (fun q52 cA H hK hP hD hS => ?_)
  obtain rfl : cI = cA := (xk_u 5 0 hK rfl rfl).symm
  have hK := hK.sub (tys' := [(cI, .int), (cB, .byte), (cL, .long), (cZ, .boolean), (cR, .object "PatchStore$Repository")]) [0, 1, 2, 3, 4] rfl
  have hP : va_P (dC, dI) classes [(h, .inr (6, [.int 0, .null, .null, .null, .null, .int 0, .int 0, .ref q8, .ref q17, .ref q26, .ref q35, .ref q43, .null, .int 0, .null, .null, .int 0])), (q8, .inl (cI, 200, .inl (fun _ => 0))), (q17, .inl (cI, 200, .inl (fun _ => 0))), (q26, .inl (cI, 400, .inl (fun _ => 0))), (q35, .inl (cI, 400, .inl (fun _ => 0))), (q43, .inl (cI, 40401, .inl (fun _ => 0))), (q52, .inl (cI, 200, .inl (fun _ => 0)))] H := hP
  have hD : va_D A [(h, .inr (6, [.int 0, .null, .null, .null, .null, .int 0, .int 0, .ref q8, .ref q17, .ref q26, .ref q35, .ref q43, .null, .int 0, .null, .null, .int 0])), (q8, .inl (cI, 200, .inl (fun _ => 0))), (q17, .inl (cI, 200, .inl (fun _ => 0))), (q26, .inl (cI, 400, .inl (fun _ => 0))), (q35, .inl (cI, 400, .inl (fun _ => 0))), (q43, .inl (cI, 40401, .inl (fun _ => 0))), (q52, .inl (cI, 200, .inl (fun _ => 0)))] := hD
  refine W.widen (k := 6) (n := 41801) (Nat.le_of_ble_eq_true rfl) (Nat.le_of_ble_eq_true rfl) ?_
  refine va_putF (D := (dC, dI)) (ci := 6) (v := .ref q52) (ty := .array .int) (C := R_Rc) (T := F_Rc) (N := 17) hx hb hts i_Rc t_Rc t_Rc_ok n_Rc hown hK hP hD hS 0 rfl rfl 12 (by decide) (hts _ gw_482) (fun _ h9 => h9) rfl hin rfl (by decide +kernel) rfl rfl (Nat.le_of_ble_eq_true rfl) d_Rc_init_54 (fun H locs hP hD hS => ?_)
  have hP : va_P (dC, dI) classes [(h, .inr (6, [.int 0, .null, .null, .null, .null, .int 0, .int 0, .ref q8, .ref q17, .ref q26, .ref q35, .ref q43, .ref q52, .int 0, .null, .null, .int 0])), (q8, .inl (cI, 200, .inl (fun _ => 0))), (q17, .inl (cI, 200, .inl (fun _ => 0))), (q26, .inl (cI, 400, .inl (fun _ => 0))), (q35, .inl (cI, 400, .inl (fun _ => 0))), (q43, .inl (cI, 40401, .inl (fun _ => 0))), (q52, .inl (cI, 200, .inl (fun _ => 0)))] H := hP
  have hD : va_D A [(h, .inr (6, [.int 0, .null, .null, .null, .null, .int 0, .int 0, .ref q8, .ref q17, .ref q26, .ref q35, .ref q43, .ref q52, .int 0, .null, .null, .int 0])), (q8, .inl (cI, 200, .inl (fun _ => 0))), (q17, .inl (cI, 200, .inl (fun _ => 0))), (q26, .inl (cI, 400, .inl (fun _ => 0))), (q35, .inl (cI, 400, .inl (fun _ => 0))), (q43, .inl (cI, 40401, .inl (fun _ => 0))), (q52, .inl (cI, 200, .inl (fun _ => 0)))] := hD
  refine lv_aload_n hx hb d_Rc_init_57 rfl (lv_at hl 0 rfl) ?_
  refine lv_sipush (v := 200) hx hb d_Rc_init_58 (by decide) ?_
  refine va_newa (atype := .int) (ty := .int) (a0 := (200, .inl (fun _ => 0))) hx hb (hts _ gw_71) rfl hK hP hD hS hA (fun _ => rfl) (by decide) (N' := 200) (by decide) (by decide) (Nat.le_of_ble_eq_true rfl) (Nat.le_of_ble_eq_true rfl) d_Rc_init_61 (fun q61 cA H hK hP hD hS => ?_)
  obtain rfl : cI = cA := (xk_u 5 0 hK rfl rfl).symm
  have hK := hK.sub (tys' := [(cI, .int), (cB, .byte), (cL, .long), (cZ, .boolean), (cR, .object "PatchStore$Repository")]) [0, 1, 2, 3, 4] rfl
  have hP : va_P (dC, dI) classes [(h, .inr (6, [.int 0, .null, .null, .null, .null, .int 0, .int 0, .ref q8, .ref q17, .ref q26, .ref q35, .ref q43, .ref q52, .int 0, .null, .null, .int 0])), (q8, .inl (cI, 200, .inl (fun _ => 0))), (q17, .inl (cI, 200, .inl (fun _ => 0))), (q26, .inl (cI, 400, .inl (fun _ => 0))), (q35, .inl (cI, 400, .inl (fun _ => 0))), (q43, .inl (cI, 40401, .inl (fun _ => 0))), (q52, .inl (cI, 200, .inl (fun _ => 0))), (q61, .inl (cI, 200, .inl (fun _ => 0)))] H := hP
  have hD : va_D A [(h, .inr (6, [.int 0, .null, .null, .null, .null, .int 0, .int 0, .ref q8, .ref q17, .ref q26, .ref q35, .ref q43, .ref q52, .int 0, .null, .null, .int 0])), (q8, .inl (cI, 200, .inl (fun _ => 0))), (q17, .inl (cI, 200, .inl (fun _ => 0))), (q26, .inl (cI, 400, .inl (fun _ => 0))), (q35, .inl (cI, 400, .inl (fun _ => 0))), (q43, .inl (cI, 40401, .inl (fun _ => 0))), (q52, .inl (cI, 200, .inl (fun _ => 0))), (q61, .inl (cI, 200, .inl (fun _ => 0)))] := hD
  refine W.widen (k := 7) (n := 42001) (Nat.le_of_ble_eq_true rfl) (Nat.le_of_ble_eq_true rfl) ?_
  refine va_putF (D := (dC, dI)) (ci := 6) (v := .ref q61) (ty := .array .int) (C := R_Rc) (T := F_Rc) (N := 17) hx hb hts i_Rc t_Rc t_Rc_ok n_Rc hown hK hP hD hS 0 rfl rfl 14 (by decide) (hts _ gw_484) (fun _ h9 => h9) rfl hin rfl (by decide +kernel) rfl rfl (Nat.le_of_ble_eq_true rfl) d_Rc_init_63 (fun H locs hP hD hS => ?_)
  have hP : va_P (dC, dI) classes [(h, .inr (6, [.int 0, .null, .null, .null, .null, .int 0, .int 0, .ref q8, .ref q17, .ref q26, .ref q35, .ref q43, .ref q52, .int 0, .ref q61, .null, .int 0])), (q8, .inl (cI, 200, .inl (fun _ => 0))), (q17, .inl (cI, 200, .inl (fun _ => 0))), (q26, .inl (cI, 400, .inl (fun _ => 0))), (q35, .inl (cI, 400, .inl (fun _ => 0))), (q43, .inl (cI, 40401, .inl (fun _ => 0))), (q52, .inl (cI, 200, .inl (fun _ => 0))), (q61, .inl (cI, 200, .inl (fun _ => 0)))] H := hP
  have hD : va_D A [(h, .inr (6, [.int 0, .null, .null, .null, .null, .int 0, .int 0, .ref q8, .ref q17, .ref q26, .ref q35, .ref q43, .ref q52, .int 0, .ref q61, .null, .int 0])), (q8, .inl (cI, 200, .inl (fun _ => 0))), (q17, .inl (cI, 200, .inl (fun _ => 0))), (q26, .inl (cI, 400, .inl (fun _ => 0))), (q35, .inl (cI, 400, .inl (fun _ => 0))), (q43, .inl (cI, 40401, .inl (fun _ => 0))), (q52, .inl (cI, 200, .inl (fun _ => 0))), (q61, .inl (cI, 200, .inl (fun _ => 0)))] := hD
  refine lv_aload_n hx hb d_Rc_init_66 rfl (lv_at hl 0 rfl) ?_
  refine lv_sipush (v := 200) hx hb d_Rc_init_67 (by decide) ?_
  refine va_newa (atype := .int) (ty := .int) (a0 := (200, .inl (fun _ => 0))) hx hb (hts _ gw_71) rfl hK hP hD hS hA (fun _ => rfl) (by decide) (N' := 200) (by decide) (by decide) (Nat.le_of_ble_eq_true rfl) (Nat.le_of_ble_eq_true rfl) d_Rc_init_70 (fun q70 cA H hK hP hD hS => ?_)
  obtain rfl : cI = cA := (xk_u 5 0 hK rfl rfl).symm
  have hK := hK.sub (tys' := [(cI, .int), (cB, .byte), (cL, .long), (cZ, .boolean), (cR, .object "PatchStore$Repository")]) [0, 1, 2, 3, 4] rfl
  have hP : va_P (dC, dI) classes [(h, .inr (6, [.int 0, .null, .null, .null, .null, .int 0, .int 0, .ref q8, .ref q17, .ref q26, .ref q35, .ref q43, .ref q52, .int 0, .ref q61, .null, .int 0])), (q8, .inl (cI, 200, .inl (fun _ => 0))), (q17, .inl (cI, 200, .inl (fun _ => 0))), (q26, .inl (cI, 400, .inl (fun _ => 0))), (q35, .inl (cI, 400, .inl (fun _ => 0))), (q43, .inl (cI, 40401, .inl (fun _ => 0))), (q52, .inl (cI, 200, .inl (fun _ => 0))), (q61, .inl (cI, 200, .inl (fun _ => 0))), (q70, .inl (cI, 200, .inl (fun _ => 0)))] H := hP
  have hD : va_D A [(h, .inr (6, [.int 0, .null, .null, .null, .null, .int 0, .int 0, .ref q8, .ref q17, .ref q26, .ref q35, .ref q43, .ref q52, .int 0, .ref q61, .null, .int 0])), (q8, .inl (cI, 200, .inl (fun _ => 0))), (q17, .inl (cI, 200, .inl (fun _ => 0))), (q26, .inl (cI, 400, .inl (fun _ => 0))), (q35, .inl (cI, 400, .inl (fun _ => 0))), (q43, .inl (cI, 40401, .inl (fun _ => 0))), (q52, .inl (cI, 200, .inl (fun _ => 0))), (q61, .inl (cI, 200, .inl (fun _ => 0))), (q70, .inl (cI, 200, .inl (fun _ => 0)))] := hD
  refine W.widen (k := 8) (n := 42201) (Nat.le_of_ble_eq_true rfl) (Nat.le_of_ble_eq_true rfl) ?_
  refine va_putF (D := (dC, dI)) (ci := 6) (v := .ref q70) (ty := .array .int) (C := R_Rc) (T := F_Rc) (N := 17) hx hb hts i_Rc t_Rc t_Rc_ok n_Rc hown hK hP hD hS 0 rfl rfl 15 (by decide) (hts _ gw_485) (fun _ h9 => h9) rfl hin rfl (by decide +kernel) rfl rfl (Nat.le_of_ble_eq_true rfl) d_Rc_init_72 (fun H locs hP hD hS => ?_)
  have hP : va_P (dC, dI) classes [(h, .inr (6, [.int 0, .null, .null, .null, .null, .int 0, .int 0, .ref q8, .ref q17, .ref q26, .ref q35, .ref q43, .ref q52, .int 0, .ref q61, .ref q70, .int 0])), (q8, .inl (cI, 200, .inl (fun _ => 0))), (q17, .inl (cI, 200, .inl (fun _ => 0))), (q26, .inl (cI, 400, .inl (fun _ => 0))), (q35, .inl (cI, 400, .inl (fun _ => 0))), (q43, .inl (cI, 40401, .inl (fun _ => 0))), (q52, .inl (cI, 200, .inl (fun _ => 0))), (q61, .inl (cI, 200, .inl (fun _ => 0))), (q70, .inl (cI, 200, .inl (fun _ => 0)))] H := hP
  have hD : va_D A [(h, .inr (6, [.int 0, .null, .null, .null, .null, .int 0, .int 0, .ref q8, .ref q17, .ref q26, .ref q35, .ref q43, .ref q52, .int 0, .ref q61, .ref q70, .int 0])), (q8, .inl (cI, 200, .inl (fun _ => 0))), (q17, .inl (cI, 200, .inl (fun _ => 0))), (q26, .inl (cI, 400, .inl (fun _ => 0))), (q35, .inl (cI, 400, .inl (fun _ => 0))), (q43, .inl (cI, 40401, .inl (fun _ => 0))), (q52, .inl (cI, 200, .inl (fun _ => 0))), (q61, .inl (cI, 200, .inl (fun _ => 0))), (q70, .inl (cI, 200, .inl (fun _ => 0)))] := hD
  refine lv_aload_n hx hb d_Rc_init_75 rfl (lv_at hl 0 rfl) ?_
  refine lv_aload_n hx hb d_Rc_init_76 rfl (lv_at hl 1 rfl) ?_
  refine va_putF (D := (dC, dI)) (ci := 6) (v := .ref sk) (ty := .object "PatchStore$Stock") (C := R_Rc) (T := F_Rc) (N := 17) hx hb hts i_Rc t_Rc t_Rc_ok n_Rc hown hK hP hD hS 0 rfl rfl 1 (by decide) (hts _ gw_471) (fun _ h9 => h9) rfl hin rfl (by decide +kernel) rfl rfl (Nat.le_of_ble_eq_true rfl) d_Rc_init_77 (fun H locs hP hD hS => ?_)
  have hP : va_P (dC, dI) classes [(h, .inr (6, [.int 0, .ref sk, .null, .null, .null, .int 0, .int 0, .ref q8, .ref q17, .ref q26, .ref q35, .ref q43, .ref q52, .int 0, .ref q61, .ref q70, .int 0])), (q8, .inl (cI, 200, .inl (fun _ => 0))), (q17, .inl (cI, 200, .inl (fun _ => 0))), (q26, .inl (cI, 400, .inl (fun _ => 0))), (q35, .inl (cI, 400, .inl (fun _ => 0))), (q43, .inl (cI, 40401, .inl (fun _ => 0))), (q52, .inl (cI, 200, .inl (fun _ => 0))), (q61, .inl (cI, 200, .inl (fun _ => 0))), (q70, .inl (cI, 200, .inl (fun _ => 0)))] H := hP
  have hD : va_D A [(h, .inr (6, [.int 0, .ref sk, .null, .null, .null, .int 0, .int 0, .ref q8, .ref q17, .ref q26, .ref q35, .ref q43, .ref q52, .int 0, .ref q61, .ref q70, .int 0])), (q8, .inl (cI, 200, .inl (fun _ => 0))), (q17, .inl (cI, 200, .inl (fun _ => 0))), (q26, .inl (cI, 400, .inl (fun _ => 0))), (q35, .inl (cI, 400, .inl (fun _ => 0))), (q43, .inl (cI, 40401, .inl (fun _ => 0))), (q52, .inl (cI, 200, .inl (fun _ => 0))), (q61, .inl (cI, 200, .inl (fun _ => 0))), (q70, .inl (cI, 200, .inl (fun _ => 0)))] := hD
  refine lv_aload_n hx hb d_Rc_init_80 rfl (lv_at hl 0 rfl) ?_
  refine lv_aload_n hx hb d_Rc_init_81 rfl (lv_at hl 2 rfl) ?_
  refine va_putF (D := (dC, dI)) (ci := 6) (v := .ref tx) (ty := .object "PatchStore$Text") (C := R_Rc) (T := F_Rc) (N := 17) hx hb hts i_Rc t_Rc t_Rc_ok n_Rc hown hK hP hD hS 0 rfl rfl 2 (by decide) (hts _ gw_472) (fun _ h9 => h9) rfl hin rfl (by decide +kernel) rfl rfl (Nat.le_of_ble_eq_true rfl) d_Rc_init_82 (fun H locs hP hD hS => ?_)
  have hP : va_P (dC, dI) classes [(h, .inr (6, [.int 0, .ref sk, .ref tx, .null, .null, .int 0, .int 0, .ref q8, .ref q17, .ref q26, .ref q35, .ref q43, .ref q52, .int 0, .ref q61, .ref q70, .int 0])), (q8, .inl (cI, 200, .inl (fun _ => 0))), (q17, .inl (cI, 200, .inl (fun _ => 0))), (q26, .inl (cI, 400, .inl (fun _ => 0))), (q35, .inl (cI, 400, .inl (fun _ => 0))), (q43, .inl (cI, 40401, .inl (fun _ => 0))), (q52, .inl (cI, 200, .inl (fun _ => 0))), (q61, .inl (cI, 200, .inl (fun _ => 0))), (q70, .inl (cI, 200, .inl (fun _ => 0)))] H := hP
  have hD : va_D A [(h, .inr (6, [.int 0, .ref sk, .ref tx, .null, .null, .int 0, .int 0, .ref q8, .ref q17, .ref q26, .ref q35, .ref q43, .ref q52, .int 0, .ref q61, .ref q70, .int 0])), (q8, .inl (cI, 200, .inl (fun _ => 0))), (q17, .inl (cI, 200, .inl (fun _ => 0))), (q26, .inl (cI, 400, .inl (fun _ => 0))), (q35, .inl (cI, 400, .inl (fun _ => 0))), (q43, .inl (cI, 40401, .inl (fun _ => 0))), (q52, .inl (cI, 200, .inl (fun _ => 0))), (q61, .inl (cI, 200, .inl (fun _ => 0))), (q70, .inl (cI, 200, .inl (fun _ => 0)))] := hD
  refine lv_aload_n hx hb d_Rc_init_85 rfl (lv_at hl 0 rfl) ?_
  refine lv_aload_n hx hb d_Rc_init_86 rfl (lv_at hl 3 rfl) ?_
  refine va_putF (D := (dC, dI)) (ci := 6) (v := .ref mk) (ty := .object "PatchStore$Maker") (C := R_Rc) (T := F_Rc) (N := 17) hx hb hts i_Rc t_Rc t_Rc_ok n_Rc hown hK hP hD hS 0 rfl rfl 3 (by decide) (hts _ gw_473) (fun _ h9 => h9) rfl hin rfl (by decide +kernel) rfl rfl (Nat.le_of_ble_eq_true rfl) d_Rc_init_87 (fun H locs hP hD hS => ?_)
  have hP : va_P (dC, dI) classes [(h, .inr (6, [.int 0, .ref sk, .ref tx, .ref mk, .null, .int 0, .int 0, .ref q8, .ref q17, .ref q26, .ref q35, .ref q43, .ref q52, .int 0, .ref q61, .ref q70, .int 0])), (q8, .inl (cI, 200, .inl (fun _ => 0))), (q17, .inl (cI, 200, .inl (fun _ => 0))), (q26, .inl (cI, 400, .inl (fun _ => 0))), (q35, .inl (cI, 400, .inl (fun _ => 0))), (q43, .inl (cI, 40401, .inl (fun _ => 0))), (q52, .inl (cI, 200, .inl (fun _ => 0))), (q61, .inl (cI, 200, .inl (fun _ => 0))), (q70, .inl (cI, 200, .inl (fun _ => 0)))] H := hP
  have hD : va_D A [(h, .inr (6, [.int 0, .ref sk, .ref tx, .ref mk, .null, .int 0, .int 0, .ref q8, .ref q17, .ref q26, .ref q35, .ref q43, .ref q52, .int 0, .ref q61, .ref q70, .int 0])), (q8, .inl (cI, 200, .inl (fun _ => 0))), (q17, .inl (cI, 200, .inl (fun _ => 0))), (q26, .inl (cI, 400, .inl (fun _ => 0))), (q35, .inl (cI, 400, .inl (fun _ => 0))), (q43, .inl (cI, 40401, .inl (fun _ => 0))), (q52, .inl (cI, 200, .inl (fun _ => 0))), (q61, .inl (cI, 200, .inl (fun _ => 0))), (q70, .inl (cI, 200, .inl (fun _ => 0)))] := hD
  refine lv_aload_n hx hb d_Rc_init_90 rfl (lv_at hl 0 rfl) ?_
  refine lv_aload hx hb d_Rc_init_91 (lv_at hl 4 rfl) ?_
  refine va_putF (D := (dC, dI)) (ci := 6) (v := .ref tp) (ty := .array .byte) (C := R_Rc) (T := F_Rc) (N := 17) hx hb hts i_Rc t_Rc t_Rc_ok n_Rc hown hK hP hD hS 0 rfl rfl 4 (by decide) (hts _ gw_474) (fun _ h9 => h9) rfl hin rfl (by decide +kernel) rfl rfl (Nat.le_of_ble_eq_true rfl) d_Rc_init_93 (fun H locs hP hD hS => ?_)
  have hP : va_P (dC, dI) classes [(h, .inr (6, [.int 0, .ref sk, .ref tx, .ref mk, .ref tp, .int 0, .int 0, .ref q8, .ref q17, .ref q26, .ref q35, .ref q43, .ref q52, .int 0, .ref q61, .ref q70, .int 0])), (q8, .inl (cI, 200, .inl (fun _ => 0))), (q17, .inl (cI, 200, .inl (fun _ => 0))), (q26, .inl (cI, 400, .inl (fun _ => 0))), (q35, .inl (cI, 400, .inl (fun _ => 0))), (q43, .inl (cI, 40401, .inl (fun _ => 0))), (q52, .inl (cI, 200, .inl (fun _ => 0))), (q61, .inl (cI, 200, .inl (fun _ => 0))), (q70, .inl (cI, 200, .inl (fun _ => 0)))] H := hP
  have hD : va_D A [(h, .inr (6, [.int 0, .ref sk, .ref tx, .ref mk, .ref tp, .int 0, .int 0, .ref q8, .ref q17, .ref q26, .ref q35, .ref q43, .ref q52, .int 0, .ref q61, .ref q70, .int 0])), (q8, .inl (cI, 200, .inl (fun _ => 0))), (q17, .inl (cI, 200, .inl (fun _ => 0))), (q26, .inl (cI, 400, .inl (fun _ => 0))), (q35, .inl (cI, 400, .inl (fun _ => 0))), (q43, .inl (cI, 40401, .inl (fun _ => 0))), (q52, .inl (cI, 200, .inl (fun _ => 0))), (q61, .inl (cI, 200, .inl (fun _ => 0))), (q70, .inl (cI, 200, .inl (fun _ => 0)))] := hD
  exact W.vret hx hb hr (fun t ht hW => ⟨⟨(q8, q17, q26, q35, q43, q52, q61, q70), rfl, trivial, by rw [ht]; exact hP, va_K.moved hW.alike hK, hD⟩, hS.F ht⟩) hS.2.2 d_Rc_init_96
