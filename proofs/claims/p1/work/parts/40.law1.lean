/-! 40.law1.lean.txt -/
theorem gw_593 : (Jvm.Cond.classLink "PatchStoreLaw" (13 : Nat) "java/lang/IllegalStateException") ∈ xg_1 := xg_s3 113 rfl rfl
theorem gw_594 : (Jvm.Cond.methodLink "PatchStoreLaw" (7 : Nat) ({ cls := "PatchStore", name := "feed", desc := "(IIIII)I" } : Jvm.MethodName)) ∈ xg_1 := xg_s3 114 rfl rfl
theorem gw_595 : (Jvm.Cond.instanceMethod ({ cls := "PatchStore", name := "feed", desc := "(IIIII)I" } : Jvm.MethodName)) ∈ xg_1 := xg_s3 115 rfl rfl
theorem gw_596 : (Jvm.Cond.selects "PatchStore" ({ cls := "PatchStore", name := "feed", desc := "(IIIII)I" } : Jvm.MethodName) ({ cls := "PatchStore", name := "feed", desc := "(IIIII)I" } : Jvm.MethodName)) ∈ xg_1 := xg_s3 116 rfl rfl
theorem gw_597 : (Jvm.Cond.code ({ cls := "PatchStore", name := "feed", desc := "(IIIII)I" } : Jvm.MethodName) prog_1_method_2_code (6 : Nat) (Option.some Jvm.ClassFile.FieldType.int)) ∈ xg_1 := xg_s3 117 rfl rfl
theorem gw_672 : (Jvm.Cond.classLink "PatchStoreLaw" (19 : Nat) "java/lang/IllegalArgumentException") ∈ xg_1 := xg_s3 192 rfl rfl
theorem gw_673 : (Jvm.Cond.methodLink "PatchStoreLaw" (15 : Nat) ({ cls := "PatchStore", name := "end", desc := "(I)I" } : Jvm.MethodName)) ∈ xg_1 := xg_s3 193 rfl rfl
theorem gw_674 : (Jvm.Cond.instanceMethod ({ cls := "PatchStore", name := "end", desc := "(I)I" } : Jvm.MethodName)) ∈ xg_1 := xg_s3 194 rfl rfl
theorem gw_675 : (Jvm.Cond.selects "PatchStore" ({ cls := "PatchStore", name := "end", desc := "(I)I" } : Jvm.MethodName) ({ cls := "PatchStore", name := "end", desc := "(I)I" } : Jvm.MethodName)) ∈ xg_1 := xg_s3 195 rfl rfl
theorem gw_676 : (Jvm.Cond.code ({ cls := "PatchStore", name := "end", desc := "(I)I" } : Jvm.MethodName) prog_1_method_3_code (2 : Nat) (Option.some Jvm.ClassFile.FieldType.int)) ∈ xg_1 := xg_s3 196 rfl rfl
theorem gw_695 : (Jvm.Cond.classLink "PatchStoreLaw" (25 : Nat) "java/util/NoSuchElementException") ∈ xg_1 := xg_s3 215 rfl rfl
theorem gw_696 : (Jvm.Cond.methodLink "PatchStoreLaw" (21 : Nat) ({ cls := "PatchStore", name := "add", desc := "(II)I" } : Jvm.MethodName)) ∈ xg_1 := xg_s3 216 rfl rfl
theorem gw_697 : (Jvm.Cond.instanceMethod ({ cls := "PatchStore", name := "add", desc := "(II)I" } : Jvm.MethodName)) ∈ xg_1 := xg_s3 217 rfl rfl
theorem gw_698 : (Jvm.Cond.selects "PatchStore" ({ cls := "PatchStore", name := "add", desc := "(II)I" } : Jvm.MethodName) ({ cls := "PatchStore", name := "add", desc := "(II)I" } : Jvm.MethodName)) ∈ xg_1 := xg_s3 218 rfl rfl
theorem gw_699 : (Jvm.Cond.code ({ cls := "PatchStore", name := "add", desc := "(II)I" } : Jvm.MethodName) prog_1_method_4_code (4 : Nat) (Option.some Jvm.ClassFile.FieldType.int)) ∈ xg_1 := xg_s3 219 rfl rfl
theorem gw_987 : (Jvm.Cond.methodLink "PatchStoreLaw" (27 : Nat) ({ cls := "PatchStore", name := "call", desc := "(II)I" } : Jvm.MethodName)) ∈ xg_1 := xg_s5 27 rfl rfl
theorem gw_988 : (Jvm.Cond.instanceMethod ({ cls := "PatchStore", name := "call", desc := "(II)I" } : Jvm.MethodName)) ∈ xg_1 := xg_s5 28 rfl rfl
theorem gw_989 : (Jvm.Cond.selects "PatchStore" ({ cls := "PatchStore", name := "call", desc := "(II)I" } : Jvm.MethodName) ({ cls := "PatchStore", name := "call", desc := "(II)I" } : Jvm.MethodName)) ∈ xg_1 := xg_s5 29 rfl rfl
theorem gw_990 : (Jvm.Cond.code ({ cls := "PatchStore", name := "call", desc := "(II)I" } : Jvm.MethodName) prog_1_method_5_code (5 : Nat) (Option.some Jvm.ClassFile.FieldType.int)) ∈ xg_1 := xg_s5 30 rfl rfl
theorem gw_1036 : (Jvm.Cond.methodLink "PatchStoreLaw" (30 : Nat) ({ cls := "PatchStore", name := "record", desc := "(II)I" } : Jvm.MethodName)) ∈ xg_1 := xg_s5 76 rfl rfl
theorem gw_1037 : (Jvm.Cond.instanceMethod ({ cls := "PatchStore", name := "record", desc := "(II)I" } : Jvm.MethodName)) ∈ xg_1 := xg_s5 77 rfl rfl
theorem gw_1038 : (Jvm.Cond.selects "PatchStore" ({ cls := "PatchStore", name := "record", desc := "(II)I" } : Jvm.MethodName) ({ cls := "PatchStore", name := "record", desc := "(II)I" } : Jvm.MethodName)) ∈ xg_1 := xg_s5 78 rfl rfl
theorem gw_1039 : (Jvm.Cond.code ({ cls := "PatchStore", name := "record", desc := "(II)I" } : Jvm.MethodName) prog_1_method_6_code (5 : Nat) (Option.some Jvm.ClassFile.FieldType.int)) ∈ xg_1 := xg_s5 79 rfl rfl
theorem gw_1203 : (Jvm.Cond.methodLink "PatchStoreLaw" (35 : Nat) ({ cls := "PatchStore", name := "read", desc := "(I)I" } : Jvm.MethodName)) ∈ xg_1 := xg_s6 3 rfl rfl
theorem gw_1204 : (Jvm.Cond.instanceMethod ({ cls := "PatchStore", name := "read", desc := "(I)I" } : Jvm.MethodName)) ∈ xg_1 := xg_s6 4 rfl rfl
theorem gw_1205 : (Jvm.Cond.selects "PatchStore" ({ cls := "PatchStore", name := "read", desc := "(I)I" } : Jvm.MethodName) ({ cls := "PatchStore", name := "read", desc := "(I)I" } : Jvm.MethodName)) ∈ xg_1 := xg_s6 5 rfl rfl
theorem gw_1206 : (Jvm.Cond.code ({ cls := "PatchStore", name := "read", desc := "(I)I" } : Jvm.MethodName) prog_1_method_7_code (4 : Nat) (Option.some Jvm.ClassFile.FieldType.int)) ∈ xg_1 := xg_s6 6 rfl rfl
theorem gw_1214 : (Jvm.Cond.methodLink "PatchStoreLaw" (38 : Nat) ({ cls := "PatchStore", name := "show", desc := "(I)I" } : Jvm.MethodName)) ∈ xg_1 := xg_s6 14 rfl rfl
theorem gw_1215 : (Jvm.Cond.instanceMethod ({ cls := "PatchStore", name := "show", desc := "(I)I" } : Jvm.MethodName)) ∈ xg_1 := xg_s6 15 rfl rfl
theorem gw_1216 : (Jvm.Cond.selects "PatchStore" ({ cls := "PatchStore", name := "show", desc := "(I)I" } : Jvm.MethodName) ({ cls := "PatchStore", name := "show", desc := "(I)I" } : Jvm.MethodName)) ∈ xg_1 := xg_s6 16 rfl rfl
theorem gw_1217 : (Jvm.Cond.code ({ cls := "PatchStore", name := "show", desc := "(I)I" } : Jvm.MethodName) prog_1_method_9_code (3 : Nat) (Option.some Jvm.ClassFile.FieldType.int)) ∈ xg_1 := xg_s6 17 rfl rfl
theorem gw_1226 : (Jvm.Cond.methodLink "PatchStoreLaw" (41 : Nat) ({ cls := "PatchStore", name := "pull", desc := "(III)I" } : Jvm.MethodName)) ∈ xg_1 := xg_s6 26 rfl rfl
theorem gw_1227 : (Jvm.Cond.instanceMethod ({ cls := "PatchStore", name := "pull", desc := "(III)I" } : Jvm.MethodName)) ∈ xg_1 := xg_s6 27 rfl rfl
theorem gw_1228 : (Jvm.Cond.selects "PatchStore" ({ cls := "PatchStore", name := "pull", desc := "(III)I" } : Jvm.MethodName) ({ cls := "PatchStore", name := "pull", desc := "(III)I" } : Jvm.MethodName)) ∈ xg_1 := xg_s6 28 rfl rfl
theorem gw_1229 : (Jvm.Cond.code ({ cls := "PatchStore", name := "pull", desc := "(III)I" } : Jvm.MethodName) prog_1_method_10_code (6 : Nat) (Option.some Jvm.ClassFile.FieldType.int)) ∈ xg_1 := xg_s6 29 rfl rfl
theorem gw_1244 : (Jvm.Cond.methodLink "PatchStoreLaw" (45 : Nat) ({ cls := "PatchStore", name := "drop", desc := "(II)I" } : Jvm.MethodName)) ∈ xg_1 := xg_s6 44 rfl rfl
theorem gw_1245 : (Jvm.Cond.instanceMethod ({ cls := "PatchStore", name := "drop", desc := "(II)I" } : Jvm.MethodName)) ∈ xg_1 := xg_s6 45 rfl rfl
theorem gw_1246 : (Jvm.Cond.selects "PatchStore" ({ cls := "PatchStore", name := "drop", desc := "(II)I" } : Jvm.MethodName) ({ cls := "PatchStore", name := "drop", desc := "(II)I" } : Jvm.MethodName)) ∈ xg_1 := xg_s6 46 rfl rfl
theorem gw_1247 : (Jvm.Cond.code ({ cls := "PatchStore", name := "drop", desc := "(II)I" } : Jvm.MethodName) prog_1_method_11_code (4 : Nat) (Option.some Jvm.ClassFile.FieldType.int)) ∈ xg_1 := xg_s6 47 rfl rfl
theorem gw_1259 : (Jvm.Cond.methodLink "PatchStoreLaw" (48 : Nat) ({ cls := "PatchStore", name := "has", desc := "(III)I" } : Jvm.MethodName)) ∈ xg_1 := xg_s6 59 rfl rfl
theorem gw_1260 : (Jvm.Cond.instanceMethod ({ cls := "PatchStore", name := "has", desc := "(III)I" } : Jvm.MethodName)) ∈ xg_1 := xg_s6 60 rfl rfl
theorem gw_1261 : (Jvm.Cond.selects "PatchStore" ({ cls := "PatchStore", name := "has", desc := "(III)I" } : Jvm.MethodName) ({ cls := "PatchStore", name := "has", desc := "(III)I" } : Jvm.MethodName)) ∈ xg_1 := xg_s6 61 rfl rfl
theorem gw_1262 : (Jvm.Cond.code ({ cls := "PatchStore", name := "has", desc := "(III)I" } : Jvm.MethodName) prog_1_method_12_code (5 : Nat) (Option.some Jvm.ClassFile.FieldType.int)) ∈ xg_1 := xg_s6 62 rfl rfl
theorem gw_1271 : (Jvm.Cond.classLink "PatchStoreLaw" (54 : Nat) "java/lang/IndexOutOfBoundsException") ∈ xg_1 := xg_s6 71 rfl rfl
theorem gw_1272 : (Jvm.Cond.methodLink "PatchStoreLaw" (51 : Nat) ({ cls := "PatchStore", name := "hash", desc := "(II)I" } : Jvm.MethodName)) ∈ xg_1 := xg_s6 72 rfl rfl
theorem gw_1273 : (Jvm.Cond.instanceMethod ({ cls := "PatchStore", name := "hash", desc := "(II)I" } : Jvm.MethodName)) ∈ xg_1 := xg_s6 73 rfl rfl
theorem gw_1274 : (Jvm.Cond.selects "PatchStore" ({ cls := "PatchStore", name := "hash", desc := "(II)I" } : Jvm.MethodName) ({ cls := "PatchStore", name := "hash", desc := "(II)I" } : Jvm.MethodName)) ∈ xg_1 := xg_s6 74 rfl rfl
theorem gw_1275 : (Jvm.Cond.code ({ cls := "PatchStore", name := "hash", desc := "(II)I" } : Jvm.MethodName) prog_1_method_13_code (3 : Nat) (Option.some Jvm.ClassFile.FieldType.int)) ∈ xg_1 := xg_s6 75 rfl rfl
theorem gw_1298 : (Jvm.Cond.methodLink "PatchStoreLaw" (56 : Nat) ({ cls := "PatchStore", name := "state", desc := "(II)I" } : Jvm.MethodName)) ∈ xg_1 := xg_s6 98 rfl rfl
theorem gw_1299 : (Jvm.Cond.instanceMethod ({ cls := "PatchStore", name := "state", desc := "(II)I" } : Jvm.MethodName)) ∈ xg_1 := xg_s6 99 rfl rfl
theorem gw_1300 : (Jvm.Cond.selects "PatchStore" ({ cls := "PatchStore", name := "state", desc := "(II)I" } : Jvm.MethodName) ({ cls := "PatchStore", name := "state", desc := "(II)I" } : Jvm.MethodName)) ∈ xg_1 := xg_s6 100 rfl rfl
theorem gw_1301 : (Jvm.Cond.code ({ cls := "PatchStore", name := "state", desc := "(II)I" } : Jvm.MethodName) prog_1_method_14_code (4 : Nat) (Option.some Jvm.ClassFile.FieldType.int)) ∈ xg_1 := xg_s6 101 rfl rfl
theorem gw_1312 : (Jvm.Cond.methodLink "PatchStoreLaw" (59 : Nat) ({ cls := "PatchStore", name := "about", desc := "(II)I" } : Jvm.MethodName)) ∈ xg_1 := xg_s6 112 rfl rfl
theorem gw_1313 : (Jvm.Cond.instanceMethod ({ cls := "PatchStore", name := "about", desc := "(II)I" } : Jvm.MethodName)) ∈ xg_1 := xg_s6 113 rfl rfl
theorem gw_1314 : (Jvm.Cond.selects "PatchStore" ({ cls := "PatchStore", name := "about", desc := "(II)I" } : Jvm.MethodName) ({ cls := "PatchStore", name := "about", desc := "(II)I" } : Jvm.MethodName)) ∈ xg_1 := xg_s6 114 rfl rfl
theorem gw_1315 : (Jvm.Cond.code ({ cls := "PatchStore", name := "about", desc := "(II)I" } : Jvm.MethodName) prog_1_method_15_code (4 : Nat) (Option.some Jvm.ClassFile.FieldType.int)) ∈ xg_1 := xg_s6 115 rfl rfl
theorem gw_1340 : (Jvm.Cond.methodLink "PatchStoreLaw" (62 : Nat) ({ cls := "PatchStore", name := "file", desc := "(III)I" } : Jvm.MethodName)) ∈ xg_1 := xg_s6 140 rfl rfl
theorem gw_1341 : (Jvm.Cond.instanceMethod ({ cls := "PatchStore", name := "file", desc := "(III)I" } : Jvm.MethodName)) ∈ xg_1 := xg_s6 141 rfl rfl
theorem gw_1342 : (Jvm.Cond.selects "PatchStore" ({ cls := "PatchStore", name := "file", desc := "(III)I" } : Jvm.MethodName) ({ cls := "PatchStore", name := "file", desc := "(III)I" } : Jvm.MethodName)) ∈ xg_1 := xg_s6 142 rfl rfl
theorem gw_1343 : (Jvm.Cond.code ({ cls := "PatchStore", name := "file", desc := "(III)I" } : Jvm.MethodName) prog_1_method_16_code (6 : Nat) (Option.some Jvm.ClassFile.FieldType.int)) ∈ xg_1 := xg_s6 143 rfl rfl
theorem gw_1347 : (Jvm.Cond.methodLink "PatchStoreLaw" (65 : Nat) ({ cls := "PatchStore", name := "name", desc := "(IIII)I" } : Jvm.MethodName)) ∈ xg_1 := xg_s6 147 rfl rfl
theorem gw_1348 : (Jvm.Cond.instanceMethod ({ cls := "PatchStore", name := "name", desc := "(IIII)I" } : Jvm.MethodName)) ∈ xg_1 := xg_s6 148 rfl rfl
theorem gw_1349 : (Jvm.Cond.selects "PatchStore" ({ cls := "PatchStore", name := "name", desc := "(IIII)I" } : Jvm.MethodName) ({ cls := "PatchStore", name := "name", desc := "(IIII)I" } : Jvm.MethodName)) ∈ xg_1 := xg_s6 149 rfl rfl
theorem gw_1350 : (Jvm.Cond.code ({ cls := "PatchStore", name := "name", desc := "(IIII)I" } : Jvm.MethodName) prog_1_method_17_code (8 : Nat) (Option.some Jvm.ClassFile.FieldType.int)) ∈ xg_1 := xg_s6 150 rfl rfl
theorem gw_1359 : (Jvm.Cond.methodLink "PatchStoreLaw" (69 : Nat) ({ cls := "PatchStore", name := "line", desc := "(IIII)I" } : Jvm.MethodName)) ∈ xg_1 := xg_s6 159 rfl rfl
theorem gw_1360 : (Jvm.Cond.instanceMethod ({ cls := "PatchStore", name := "line", desc := "(IIII)I" } : Jvm.MethodName)) ∈ xg_1 := xg_s6 160 rfl rfl
theorem gw_1361 : (Jvm.Cond.selects "PatchStore" ({ cls := "PatchStore", name := "line", desc := "(IIII)I" } : Jvm.MethodName) ({ cls := "PatchStore", name := "line", desc := "(IIII)I" } : Jvm.MethodName)) ∈ xg_1 := xg_s6 161 rfl rfl
theorem gw_1362 : (Jvm.Cond.code ({ cls := "PatchStore", name := "line", desc := "(IIII)I" } : Jvm.MethodName) prog_1_method_18_code (7 : Nat) (Option.some Jvm.ClassFile.FieldType.int)) ∈ xg_1 := xg_s6 162 rfl rfl
def y_Lw_pull : MethodName := ⟨"PatchStoreLaw", "pull", "(LPatchStore;III[J)I"⟩
abbrev c_Lw_pull : Cond := (Jvm.Cond.codeWith ({ cls := "PatchStoreLaw", name := "pull", desc := "(LPatchStore;III[J)I" } : Jvm.MethodName) method_10_code (6 : Nat) (Option.some Jvm.ClassFile.FieldType.int) [((0 : Nat), (12 : Nat), (15 : Nat), (25 : Nat))])
abbrev ws_Lw_pull : List Cond := c_Lw_pull :: xg_1
theorem d_Lw_pull_0 : decode method_10_code 0 = .ok (.aload 4, 2) := by decide +kernel
theorem d_Lw_pull_2 : decode method_10_code 2 = .ok (.iconst 0, 1) := by decide +kernel
theorem d_Lw_pull_3 : decode method_10_code 3 = .ok (.aload_n 0, 1) := by decide +kernel
theorem d_Lw_pull_4 : decode method_10_code 4 = .ok (.iload_n 1, 1) := by decide +kernel
theorem d_Lw_pull_5 : decode method_10_code 5 = .ok (.iload_n 2, 1) := by decide +kernel
theorem d_Lw_pull_6 : decode method_10_code 6 = .ok (.iload_n 3, 1) := by decide +kernel
theorem d_Lw_pull_7 : decode method_10_code 7 = .ok (.invokevirtual 41, 3) := by decide +kernel
theorem d_Lw_pull_10 : decode method_10_code 10 = .ok (.i2l, 1) := by decide +kernel
theorem d_Lw_pull_11 : decode method_10_code 11 = .ok (.lastore, 1) := by decide +kernel
theorem d_Lw_pull_12 : decode method_10_code 12 = .ok (.goto 7, 3) := by decide +kernel
theorem d_Lw_pull_15 : decode method_10_code 15 = .ok (.astore 5, 2) := by decide +kernel
theorem d_Lw_pull_17 : decode method_10_code 17 = .ok (.iconst 1, 1) := by decide +kernel
theorem d_Lw_pull_18 : decode method_10_code 18 = .ok (.ireturn, 1) := by decide +kernel
theorem d_Lw_pull_19 : decode method_10_code 19 = .ok (.iconst 0, 1) := by decide +kernel
theorem d_Lw_pull_20 : decode method_10_code 20 = .ok (.ireturn, 1) := by decide +kernel
def y_Lw_call : MethodName := ⟨"PatchStoreLaw", "call", "(LPatchStore;II[J)I"⟩
abbrev c_Lw_call : Cond := (Jvm.Cond.codeWith ({ cls := "PatchStoreLaw", name := "call", desc := "(LPatchStore;II[J)I" } : Jvm.MethodName) method_6_code (5 : Nat) (Option.some Jvm.ClassFile.FieldType.int) [((0 : Nat), (10 : Nat), (13 : Nat), (25 : Nat)), ((0 : Nat), (10 : Nat), (17 : Nat), (19 : Nat)), ((0 : Nat), (10 : Nat), (21 : Nat), (13 : Nat))])
abbrev ws_Lw_call : List Cond := c_Lw_call :: xg_1
theorem d_Lw_call_0 : decode method_6_code 0 = .ok (.aload_n 3, 1) := by decide +kernel
theorem d_Lw_call_1 : decode method_6_code 1 = .ok (.iconst 0, 1) := by decide +kernel
theorem d_Lw_call_2 : decode method_6_code 2 = .ok (.aload_n 0, 1) := by decide +kernel
theorem d_Lw_call_3 : decode method_6_code 3 = .ok (.iload_n 1, 1) := by decide +kernel
theorem d_Lw_call_4 : decode method_6_code 4 = .ok (.iload_n 2, 1) := by decide +kernel
theorem d_Lw_call_5 : decode method_6_code 5 = .ok (.invokevirtual 27, 3) := by decide +kernel
theorem d_Lw_call_8 : decode method_6_code 8 = .ok (.i2l, 1) := by decide +kernel
theorem d_Lw_call_9 : decode method_6_code 9 = .ok (.lastore, 1) := by decide +kernel
theorem d_Lw_call_10 : decode method_6_code 10 = .ok (.goto 15, 3) := by decide +kernel
theorem d_Lw_call_13 : decode method_6_code 13 = .ok (.astore 4, 2) := by decide +kernel
theorem d_Lw_call_15 : decode method_6_code 15 = .ok (.iconst 1, 1) := by decide +kernel
theorem d_Lw_call_16 : decode method_6_code 16 = .ok (.ireturn, 1) := by decide +kernel
theorem d_Lw_call_17 : decode method_6_code 17 = .ok (.astore 4, 2) := by decide +kernel
theorem d_Lw_call_19 : decode method_6_code 19 = .ok (.iconst 2, 1) := by decide +kernel
theorem d_Lw_call_20 : decode method_6_code 20 = .ok (.ireturn, 1) := by decide +kernel
theorem d_Lw_call_21 : decode method_6_code 21 = .ok (.astore 4, 2) := by decide +kernel
theorem d_Lw_call_23 : decode method_6_code 23 = .ok (.iconst 3, 1) := by decide +kernel
theorem d_Lw_call_24 : decode method_6_code 24 = .ok (.ireturn, 1) := by decide +kernel
theorem d_Lw_call_25 : decode method_6_code 25 = .ok (.iconst 0, 1) := by decide +kernel
theorem d_Lw_call_26 : decode method_6_code 26 = .ok (.ireturn, 1) := by decide +kernel
def y_Lw_record : MethodName := ⟨"PatchStoreLaw", "record", "(LPatchStore;II[J)I"⟩
abbrev c_Lw_record : Cond := (Jvm.Cond.codeWith ({ cls := "PatchStoreLaw", name := "record", desc := "(LPatchStore;II[J)I" } : Jvm.MethodName) method_7_code (5 : Nat) (Option.some Jvm.ClassFile.FieldType.int) [((0 : Nat), (10 : Nat), (13 : Nat), (25 : Nat)), ((0 : Nat), (10 : Nat), (17 : Nat), (19 : Nat)), ((0 : Nat), (10 : Nat), (21 : Nat), (33 : Nat)), ((0 : Nat), (10 : Nat), (25 : Nat), (13 : Nat))])
abbrev ws_Lw_record : List Cond := c_Lw_record :: xg_1
theorem d_Lw_record_0 : decode method_7_code 0 = .ok (.aload_n 3, 1) := by decide +kernel
theorem d_Lw_record_1 : decode method_7_code 1 = .ok (.iconst 0, 1) := by decide +kernel
theorem d_Lw_record_2 : decode method_7_code 2 = .ok (.aload_n 0, 1) := by decide +kernel
theorem d_Lw_record_3 : decode method_7_code 3 = .ok (.iload_n 1, 1) := by decide +kernel
theorem d_Lw_record_4 : decode method_7_code 4 = .ok (.iload_n 2, 1) := by decide +kernel
theorem d_Lw_record_5 : decode method_7_code 5 = .ok (.invokevirtual 30, 3) := by decide +kernel
theorem d_Lw_record_8 : decode method_7_code 8 = .ok (.i2l, 1) := by decide +kernel
theorem d_Lw_record_9 : decode method_7_code 9 = .ok (.lastore, 1) := by decide +kernel
theorem d_Lw_record_10 : decode method_7_code 10 = .ok (.goto 19, 3) := by decide +kernel
theorem d_Lw_record_13 : decode method_7_code 13 = .ok (.astore 4, 2) := by decide +kernel
theorem d_Lw_record_15 : decode method_7_code 15 = .ok (.iconst 1, 1) := by decide +kernel
theorem d_Lw_record_16 : decode method_7_code 16 = .ok (.ireturn, 1) := by decide +kernel
theorem d_Lw_record_17 : decode method_7_code 17 = .ok (.astore 4, 2) := by decide +kernel
theorem d_Lw_record_19 : decode method_7_code 19 = .ok (.iconst 2, 1) := by decide +kernel
theorem d_Lw_record_20 : decode method_7_code 20 = .ok (.ireturn, 1) := by decide +kernel
theorem d_Lw_record_21 : decode method_7_code 21 = .ok (.astore 4, 2) := by decide +kernel
theorem d_Lw_record_23 : decode method_7_code 23 = .ok (.iconst 3, 1) := by decide +kernel
theorem d_Lw_record_24 : decode method_7_code 24 = .ok (.ireturn, 1) := by decide +kernel
theorem d_Lw_record_25 : decode method_7_code 25 = .ok (.astore 4, 2) := by decide +kernel
theorem d_Lw_record_27 : decode method_7_code 27 = .ok (.iconst 4, 1) := by decide +kernel
theorem d_Lw_record_28 : decode method_7_code 28 = .ok (.ireturn, 1) := by decide +kernel
theorem d_Lw_record_29 : decode method_7_code 29 = .ok (.iconst 0, 1) := by decide +kernel
theorem d_Lw_record_30 : decode method_7_code 30 = .ok (.ireturn, 1) := by decide +kernel
def y_Lw_file : MethodName := ⟨"PatchStoreLaw", "file", "(LPatchStore;III[J)I"⟩
abbrev c_Lw_file : Cond := (Jvm.Cond.codeWith ({ cls := "PatchStoreLaw", name := "file", desc := "(LPatchStore;III[J)I" } : Jvm.MethodName) method_16_code (6 : Nat) (Option.some Jvm.ClassFile.FieldType.int) [((0 : Nat), (12 : Nat), (15 : Nat), (25 : Nat)), ((0 : Nat), (12 : Nat), (19 : Nat), (19 : Nat))])
abbrev ws_Lw_file : List Cond := c_Lw_file :: xg_1
theorem d_Lw_file_0 : decode method_16_code 0 = .ok (.aload 4, 2) := by decide +kernel
theorem d_Lw_file_2 : decode method_16_code 2 = .ok (.iconst 0, 1) := by decide +kernel
theorem d_Lw_file_3 : decode method_16_code 3 = .ok (.aload_n 0, 1) := by decide +kernel
theorem d_Lw_file_4 : decode method_16_code 4 = .ok (.iload_n 1, 1) := by decide +kernel
theorem d_Lw_file_5 : decode method_16_code 5 = .ok (.iload_n 2, 1) := by decide +kernel
theorem d_Lw_file_6 : decode method_16_code 6 = .ok (.iload_n 3, 1) := by decide +kernel
theorem d_Lw_file_7 : decode method_16_code 7 = .ok (.invokevirtual 62, 3) := by decide +kernel
theorem d_Lw_file_10 : decode method_16_code 10 = .ok (.i2l, 1) := by decide +kernel
theorem d_Lw_file_11 : decode method_16_code 11 = .ok (.lastore, 1) := by decide +kernel
theorem d_Lw_file_12 : decode method_16_code 12 = .ok (.goto 11, 3) := by decide +kernel
theorem d_Lw_file_15 : decode method_16_code 15 = .ok (.astore 5, 2) := by decide +kernel
theorem d_Lw_file_17 : decode method_16_code 17 = .ok (.iconst 1, 1) := by decide +kernel
theorem d_Lw_file_18 : decode method_16_code 18 = .ok (.ireturn, 1) := by decide +kernel
theorem d_Lw_file_19 : decode method_16_code 19 = .ok (.astore 5, 2) := by decide +kernel
theorem d_Lw_file_21 : decode method_16_code 21 = .ok (.iconst 2, 1) := by decide +kernel
theorem d_Lw_file_22 : decode method_16_code 22 = .ok (.ireturn, 1) := by decide +kernel
theorem d_Lw_file_23 : decode method_16_code 23 = .ok (.iconst 0, 1) := by decide +kernel
theorem d_Lw_file_24 : decode method_16_code 24 = .ok (.ireturn, 1) := by decide +kernel
def y_Lw_name : MethodName := ⟨"PatchStoreLaw", "name", "(LPatchStore;IIII[J)I"⟩
abbrev c_Lw_name : Cond := (Jvm.Cond.codeWith ({ cls := "PatchStoreLaw", name := "name", desc := "(LPatchStore;IIII[J)I" } : Jvm.MethodName) method_17_code (7 : Nat) (Option.some Jvm.ClassFile.FieldType.int) [((0 : Nat), (14 : Nat), (17 : Nat), (25 : Nat)), ((0 : Nat), (14 : Nat), (21 : Nat), (54 : Nat))])
abbrev ws_Lw_name : List Cond := c_Lw_name :: xg_1
theorem d_Lw_name_0 : decode method_17_code 0 = .ok (.aload 5, 2) := by decide +kernel
theorem d_Lw_name_2 : decode method_17_code 2 = .ok (.iconst 0, 1) := by decide +kernel
theorem d_Lw_name_3 : decode method_17_code 3 = .ok (.aload_n 0, 1) := by decide +kernel
theorem d_Lw_name_4 : decode method_17_code 4 = .ok (.iload_n 1, 1) := by decide +kernel
theorem d_Lw_name_5 : decode method_17_code 5 = .ok (.iload_n 2, 1) := by decide +kernel
theorem d_Lw_name_6 : decode method_17_code 6 = .ok (.iload_n 3, 1) := by decide +kernel
theorem d_Lw_name_7 : decode method_17_code 7 = .ok (.iload 4, 2) := by decide +kernel
theorem d_Lw_name_9 : decode method_17_code 9 = .ok (.invokevirtual 65, 3) := by decide +kernel
theorem d_Lw_name_12 : decode method_17_code 12 = .ok (.i2l, 1) := by decide +kernel
theorem d_Lw_name_13 : decode method_17_code 13 = .ok (.lastore, 1) := by decide +kernel
theorem d_Lw_name_14 : decode method_17_code 14 = .ok (.goto 11, 3) := by decide +kernel
theorem d_Lw_name_17 : decode method_17_code 17 = .ok (.astore 6, 2) := by decide +kernel
theorem d_Lw_name_19 : decode method_17_code 19 = .ok (.iconst 1, 1) := by decide +kernel
theorem d_Lw_name_20 : decode method_17_code 20 = .ok (.ireturn, 1) := by decide +kernel
theorem d_Lw_name_21 : decode method_17_code 21 = .ok (.astore 6, 2) := by decide +kernel
theorem d_Lw_name_23 : decode method_17_code 23 = .ok (.iconst 2, 1) := by decide +kernel
theorem d_Lw_name_24 : decode method_17_code 24 = .ok (.ireturn, 1) := by decide +kernel
theorem d_Lw_name_25 : decode method_17_code 25 = .ok (.iconst 0, 1) := by decide +kernel
theorem d_Lw_name_26 : decode method_17_code 26 = .ok (.ireturn, 1) := by decide +kernel
def y_Lw_line : MethodName := ⟨"PatchStoreLaw", "line", "(LPatchStore;IIII[J)I"⟩
abbrev c_Lw_line : Cond := (Jvm.Cond.codeWith ({ cls := "PatchStoreLaw", name := "line", desc := "(LPatchStore;IIII[J)I" } : Jvm.MethodName) method_18_code (7 : Nat) (Option.some Jvm.ClassFile.FieldType.int) [((0 : Nat), (14 : Nat), (17 : Nat), (25 : Nat)), ((0 : Nat), (14 : Nat), (21 : Nat), (54 : Nat))])
abbrev ws_Lw_line : List Cond := c_Lw_line :: xg_1
theorem d_Lw_line_0 : decode method_18_code 0 = .ok (.aload 5, 2) := by decide +kernel
theorem d_Lw_line_2 : decode method_18_code 2 = .ok (.iconst 0, 1) := by decide +kernel
theorem d_Lw_line_3 : decode method_18_code 3 = .ok (.aload_n 0, 1) := by decide +kernel
theorem d_Lw_line_4 : decode method_18_code 4 = .ok (.iload_n 1, 1) := by decide +kernel
theorem d_Lw_line_5 : decode method_18_code 5 = .ok (.iload_n 2, 1) := by decide +kernel
theorem d_Lw_line_6 : decode method_18_code 6 = .ok (.iload_n 3, 1) := by decide +kernel
theorem d_Lw_line_7 : decode method_18_code 7 = .ok (.iload 4, 2) := by decide +kernel
theorem d_Lw_line_9 : decode method_18_code 9 = .ok (.invokevirtual 69, 3) := by decide +kernel
theorem d_Lw_line_12 : decode method_18_code 12 = .ok (.i2l, 1) := by decide +kernel
theorem d_Lw_line_13 : decode method_18_code 13 = .ok (.lastore, 1) := by decide +kernel
theorem d_Lw_line_14 : decode method_18_code 14 = .ok (.goto 11, 3) := by decide +kernel
theorem d_Lw_line_17 : decode method_18_code 17 = .ok (.astore 6, 2) := by decide +kernel
theorem d_Lw_line_19 : decode method_18_code 19 = .ok (.iconst 1, 1) := by decide +kernel
theorem d_Lw_line_20 : decode method_18_code 20 = .ok (.ireturn, 1) := by decide +kernel
theorem d_Lw_line_21 : decode method_18_code 21 = .ok (.astore 6, 2) := by decide +kernel
theorem d_Lw_line_23 : decode method_18_code 23 = .ok (.iconst 2, 1) := by decide +kernel
theorem d_Lw_line_24 : decode method_18_code 24 = .ok (.ireturn, 1) := by decide +kernel
theorem d_Lw_line_25 : decode method_18_code 25 = .ok (.iconst 0, 1) := by decide +kernel
theorem d_Lw_line_26 : decode method_18_code 26 = .ok (.ireturn, 1) := by decide +kernel
def y_Lw_show : MethodName := ⟨"PatchStoreLaw", "show", "(LPatchStore;I[J)I"⟩
abbrev c_Lw_show : Cond := (Jvm.Cond.codeWith ({ cls := "PatchStoreLaw", name := "show", desc := "(LPatchStore;I[J)I" } : Jvm.MethodName) method_9_code (4 : Nat) (Option.some Jvm.ClassFile.FieldType.int) [((0 : Nat), (9 : Nat), (12 : Nat), (25 : Nat)), ((0 : Nat), (9 : Nat), (15 : Nat), (33 : Nat))])
abbrev ws_Lw_show : List Cond := c_Lw_show :: xg_1
theorem d_Lw_show_0 : decode method_9_code 0 = .ok (.aload_n 2, 1) := by decide +kernel
theorem d_Lw_show_1 : decode method_9_code 1 = .ok (.iconst 0, 1) := by decide +kernel
theorem d_Lw_show_2 : decode method_9_code 2 = .ok (.aload_n 0, 1) := by decide +kernel
theorem d_Lw_show_3 : decode method_9_code 3 = .ok (.iload_n 1, 1) := by decide +kernel
theorem d_Lw_show_4 : decode method_9_code 4 = .ok (.invokevirtual 38, 3) := by decide +kernel
theorem d_Lw_show_7 : decode method_9_code 7 = .ok (.i2l, 1) := by decide +kernel
theorem d_Lw_show_8 : decode method_9_code 8 = .ok (.lastore, 1) := by decide +kernel
theorem d_Lw_show_9 : decode method_9_code 9 = .ok (.goto 9, 3) := by decide +kernel
theorem d_Lw_show_12 : decode method_9_code 12 = .ok (.astore_n 3, 1) := by decide +kernel
theorem d_Lw_show_13 : decode method_9_code 13 = .ok (.iconst 1, 1) := by decide +kernel
theorem d_Lw_show_14 : decode method_9_code 14 = .ok (.ireturn, 1) := by decide +kernel
theorem d_Lw_show_15 : decode method_9_code 15 = .ok (.astore_n 3, 1) := by decide +kernel
theorem d_Lw_show_16 : decode method_9_code 16 = .ok (.iconst 2, 1) := by decide +kernel
theorem d_Lw_show_17 : decode method_9_code 17 = .ok (.ireturn, 1) := by decide +kernel
theorem d_Lw_show_18 : decode method_9_code 18 = .ok (.iconst 0, 1) := by decide +kernel
theorem d_Lw_show_19 : decode method_9_code 19 = .ok (.ireturn, 1) := by decide +kernel
def y_Lw_hash : MethodName := ⟨"PatchStoreLaw", "hash", "(LPatchStore;II[J)I"⟩
abbrev c_Lw_hash : Cond := (Jvm.Cond.codeWith ({ cls := "PatchStoreLaw", name := "hash", desc := "(LPatchStore;II[J)I" } : Jvm.MethodName) method_13_code (5 : Nat) (Option.some Jvm.ClassFile.FieldType.int) [((0 : Nat), (10 : Nat), (13 : Nat), (25 : Nat)), ((0 : Nat), (10 : Nat), (17 : Nat), (54 : Nat))])
abbrev ws_Lw_hash : List Cond := c_Lw_hash :: xg_1
theorem d_Lw_hash_0 : decode method_13_code 0 = .ok (.aload_n 3, 1) := by decide +kernel
theorem d_Lw_hash_1 : decode method_13_code 1 = .ok (.iconst 0, 1) := by decide +kernel
theorem d_Lw_hash_2 : decode method_13_code 2 = .ok (.aload_n 0, 1) := by decide +kernel
theorem d_Lw_hash_3 : decode method_13_code 3 = .ok (.iload_n 1, 1) := by decide +kernel
theorem d_Lw_hash_4 : decode method_13_code 4 = .ok (.iload_n 2, 1) := by decide +kernel
theorem d_Lw_hash_5 : decode method_13_code 5 = .ok (.invokevirtual 51, 3) := by decide +kernel
theorem d_Lw_hash_8 : decode method_13_code 8 = .ok (.i2l, 1) := by decide +kernel
theorem d_Lw_hash_9 : decode method_13_code 9 = .ok (.lastore, 1) := by decide +kernel
theorem d_Lw_hash_10 : decode method_13_code 10 = .ok (.goto 11, 3) := by decide +kernel
theorem d_Lw_hash_13 : decode method_13_code 13 = .ok (.astore 4, 2) := by decide +kernel
theorem d_Lw_hash_15 : decode method_13_code 15 = .ok (.iconst 1, 1) := by decide +kernel
theorem d_Lw_hash_16 : decode method_13_code 16 = .ok (.ireturn, 1) := by decide +kernel
theorem d_Lw_hash_17 : decode method_13_code 17 = .ok (.astore 4, 2) := by decide +kernel
theorem d_Lw_hash_19 : decode method_13_code 19 = .ok (.iconst 2, 1) := by decide +kernel
theorem d_Lw_hash_20 : decode method_13_code 20 = .ok (.ireturn, 1) := by decide +kernel
theorem d_Lw_hash_21 : decode method_13_code 21 = .ok (.iconst 0, 1) := by decide +kernel
theorem d_Lw_hash_22 : decode method_13_code 22 = .ok (.ireturn, 1) := by decide +kernel
def y_Lw_has : MethodName := ⟨"PatchStoreLaw", "has", "(LPatchStore;III[J)I"⟩
abbrev c_Lw_has : Cond := (Jvm.Cond.codeWith ({ cls := "PatchStoreLaw", name := "has", desc := "(LPatchStore;III[J)I" } : Jvm.MethodName) method_12_code (6 : Nat) (Option.some Jvm.ClassFile.FieldType.int) [((0 : Nat), (12 : Nat), (15 : Nat), (25 : Nat)), ((0 : Nat), (12 : Nat), (19 : Nat), (19 : Nat))])
abbrev ws_Lw_has : List Cond := c_Lw_has :: xg_1
theorem d_Lw_has_0 : decode method_12_code 0 = .ok (.aload 4, 2) := by decide +kernel
theorem d_Lw_has_2 : decode method_12_code 2 = .ok (.iconst 0, 1) := by decide +kernel
theorem d_Lw_has_3 : decode method_12_code 3 = .ok (.aload_n 0, 1) := by decide +kernel
theorem d_Lw_has_4 : decode method_12_code 4 = .ok (.iload_n 1, 1) := by decide +kernel
theorem d_Lw_has_5 : decode method_12_code 5 = .ok (.iload_n 2, 1) := by decide +kernel
theorem d_Lw_has_6 : decode method_12_code 6 = .ok (.iload_n 3, 1) := by decide +kernel
theorem d_Lw_has_7 : decode method_12_code 7 = .ok (.invokevirtual 48, 3) := by decide +kernel
theorem d_Lw_has_10 : decode method_12_code 10 = .ok (.i2l, 1) := by decide +kernel
theorem d_Lw_has_11 : decode method_12_code 11 = .ok (.lastore, 1) := by decide +kernel
theorem d_Lw_has_12 : decode method_12_code 12 = .ok (.goto 11, 3) := by decide +kernel
theorem d_Lw_has_15 : decode method_12_code 15 = .ok (.astore 5, 2) := by decide +kernel
theorem d_Lw_has_17 : decode method_12_code 17 = .ok (.iconst 1, 1) := by decide +kernel
theorem d_Lw_has_18 : decode method_12_code 18 = .ok (.ireturn, 1) := by decide +kernel
theorem d_Lw_has_19 : decode method_12_code 19 = .ok (.astore 5, 2) := by decide +kernel
theorem d_Lw_has_21 : decode method_12_code 21 = .ok (.iconst 2, 1) := by decide +kernel
theorem d_Lw_has_22 : decode method_12_code 22 = .ok (.ireturn, 1) := by decide +kernel
theorem d_Lw_has_23 : decode method_12_code 23 = .ok (.iconst 0, 1) := by decide +kernel
theorem d_Lw_has_24 : decode method_12_code 24 = .ok (.ireturn, 1) := by decide +kernel
def y_Lw_drop : MethodName := ⟨"PatchStoreLaw", "drop", "(LPatchStore;II[J)I"⟩
abbrev c_Lw_drop : Cond := (Jvm.Cond.codeWith ({ cls := "PatchStoreLaw", name := "drop", desc := "(LPatchStore;II[J)I" } : Jvm.MethodName) method_11_code (5 : Nat) (Option.some Jvm.ClassFile.FieldType.int) [((0 : Nat), (10 : Nat), (13 : Nat), (25 : Nat)), ((0 : Nat), (10 : Nat), (17 : Nat), (13 : Nat))])
abbrev ws_Lw_drop : List Cond := c_Lw_drop :: xg_1
theorem d_Lw_drop_0 : decode method_11_code 0 = .ok (.aload_n 3, 1) := by decide +kernel
theorem d_Lw_drop_1 : decode method_11_code 1 = .ok (.iconst 0, 1) := by decide +kernel
theorem d_Lw_drop_2 : decode method_11_code 2 = .ok (.aload_n 0, 1) := by decide +kernel
theorem d_Lw_drop_3 : decode method_11_code 3 = .ok (.iload_n 1, 1) := by decide +kernel
theorem d_Lw_drop_4 : decode method_11_code 4 = .ok (.iload_n 2, 1) := by decide +kernel
theorem d_Lw_drop_5 : decode method_11_code 5 = .ok (.invokevirtual 45, 3) := by decide +kernel
theorem d_Lw_drop_8 : decode method_11_code 8 = .ok (.i2l, 1) := by decide +kernel
theorem d_Lw_drop_9 : decode method_11_code 9 = .ok (.lastore, 1) := by decide +kernel
theorem d_Lw_drop_10 : decode method_11_code 10 = .ok (.goto 11, 3) := by decide +kernel
theorem d_Lw_drop_13 : decode method_11_code 13 = .ok (.astore 4, 2) := by decide +kernel
theorem d_Lw_drop_15 : decode method_11_code 15 = .ok (.iconst 1, 1) := by decide +kernel
theorem d_Lw_drop_16 : decode method_11_code 16 = .ok (.ireturn, 1) := by decide +kernel
theorem d_Lw_drop_17 : decode method_11_code 17 = .ok (.astore 4, 2) := by decide +kernel
theorem d_Lw_drop_19 : decode method_11_code 19 = .ok (.iconst 2, 1) := by decide +kernel
theorem d_Lw_drop_20 : decode method_11_code 20 = .ok (.ireturn, 1) := by decide +kernel
theorem d_Lw_drop_21 : decode method_11_code 21 = .ok (.iconst 0, 1) := by decide +kernel
theorem d_Lw_drop_22 : decode method_11_code 22 = .ok (.ireturn, 1) := by decide +kernel
def y_Lw_add : MethodName := ⟨"PatchStoreLaw", "add", "(LPatchStore;II[J)I"⟩
abbrev c_Lw_add : Cond := (Jvm.Cond.codeWith ({ cls := "PatchStoreLaw", name := "add", desc := "(LPatchStore;II[J)I" } : Jvm.MethodName) method_5_code (5 : Nat) (Option.some Jvm.ClassFile.FieldType.int) [((0 : Nat), (10 : Nat), (13 : Nat), (25 : Nat)), ((0 : Nat), (10 : Nat), (17 : Nat), (19 : Nat)), ((0 : Nat), (10 : Nat), (21 : Nat), (13 : Nat))])
abbrev ws_Lw_add : List Cond := c_Lw_add :: xg_1
theorem d_Lw_add_0 : decode method_5_code 0 = .ok (.aload_n 3, 1) := by decide +kernel
theorem d_Lw_add_1 : decode method_5_code 1 = .ok (.iconst 0, 1) := by decide +kernel
theorem d_Lw_add_2 : decode method_5_code 2 = .ok (.aload_n 0, 1) := by decide +kernel
theorem d_Lw_add_3 : decode method_5_code 3 = .ok (.iload_n 1, 1) := by decide +kernel
theorem d_Lw_add_4 : decode method_5_code 4 = .ok (.iload_n 2, 1) := by decide +kernel
theorem d_Lw_add_5 : decode method_5_code 5 = .ok (.invokevirtual 21, 3) := by decide +kernel
theorem d_Lw_add_8 : decode method_5_code 8 = .ok (.i2l, 1) := by decide +kernel
theorem d_Lw_add_9 : decode method_5_code 9 = .ok (.lastore, 1) := by decide +kernel
theorem d_Lw_add_10 : decode method_5_code 10 = .ok (.goto 15, 3) := by decide +kernel
theorem d_Lw_add_13 : decode method_5_code 13 = .ok (.astore 4, 2) := by decide +kernel
theorem d_Lw_add_15 : decode method_5_code 15 = .ok (.iconst 1, 1) := by decide +kernel
theorem d_Lw_add_16 : decode method_5_code 16 = .ok (.ireturn, 1) := by decide +kernel
theorem d_Lw_add_17 : decode method_5_code 17 = .ok (.astore 4, 2) := by decide +kernel
theorem d_Lw_add_19 : decode method_5_code 19 = .ok (.iconst 2, 1) := by decide +kernel
theorem d_Lw_add_20 : decode method_5_code 20 = .ok (.ireturn, 1) := by decide +kernel
theorem d_Lw_add_21 : decode method_5_code 21 = .ok (.astore 4, 2) := by decide +kernel
theorem d_Lw_add_23 : decode method_5_code 23 = .ok (.iconst 3, 1) := by decide +kernel
theorem d_Lw_add_24 : decode method_5_code 24 = .ok (.ireturn, 1) := by decide +kernel
theorem d_Lw_add_25 : decode method_5_code 25 = .ok (.iconst 0, 1) := by decide +kernel
theorem d_Lw_add_26 : decode method_5_code 26 = .ok (.ireturn, 1) := by decide +kernel
def y_Lw_read : MethodName := ⟨"PatchStoreLaw", "read", "(LPatchStore;I[J)I"⟩
abbrev c_Lw_read : Cond := (Jvm.Cond.codeWith ({ cls := "PatchStoreLaw", name := "read", desc := "(LPatchStore;I[J)I" } : Jvm.MethodName) method_8_code (4 : Nat) (Option.some Jvm.ClassFile.FieldType.int) [((0 : Nat), (9 : Nat), (12 : Nat), (25 : Nat)), ((0 : Nat), (9 : Nat), (15 : Nat), (19 : Nat)), ((0 : Nat), (9 : Nat), (18 : Nat), (13 : Nat))])
abbrev ws_Lw_read : List Cond := c_Lw_read :: xg_1
theorem d_Lw_read_0 : decode method_8_code 0 = .ok (.aload_n 2, 1) := by decide +kernel
theorem d_Lw_read_1 : decode method_8_code 1 = .ok (.iconst 0, 1) := by decide +kernel
theorem d_Lw_read_2 : decode method_8_code 2 = .ok (.aload_n 0, 1) := by decide +kernel
theorem d_Lw_read_3 : decode method_8_code 3 = .ok (.iload_n 1, 1) := by decide +kernel
theorem d_Lw_read_4 : decode method_8_code 4 = .ok (.invokevirtual 35, 3) := by decide +kernel
theorem d_Lw_read_7 : decode method_8_code 7 = .ok (.i2l, 1) := by decide +kernel
theorem d_Lw_read_8 : decode method_8_code 8 = .ok (.lastore, 1) := by decide +kernel
theorem d_Lw_read_9 : decode method_8_code 9 = .ok (.goto 12, 3) := by decide +kernel
theorem d_Lw_read_12 : decode method_8_code 12 = .ok (.astore_n 3, 1) := by decide +kernel
theorem d_Lw_read_13 : decode method_8_code 13 = .ok (.iconst 1, 1) := by decide +kernel
theorem d_Lw_read_14 : decode method_8_code 14 = .ok (.ireturn, 1) := by decide +kernel
theorem d_Lw_read_15 : decode method_8_code 15 = .ok (.astore_n 3, 1) := by decide +kernel
theorem d_Lw_read_16 : decode method_8_code 16 = .ok (.iconst 2, 1) := by decide +kernel
theorem d_Lw_read_17 : decode method_8_code 17 = .ok (.ireturn, 1) := by decide +kernel
theorem d_Lw_read_18 : decode method_8_code 18 = .ok (.astore_n 3, 1) := by decide +kernel
theorem d_Lw_read_19 : decode method_8_code 19 = .ok (.iconst 3, 1) := by decide +kernel
theorem d_Lw_read_20 : decode method_8_code 20 = .ok (.ireturn, 1) := by decide +kernel
theorem d_Lw_read_21 : decode method_8_code 21 = .ok (.iconst 0, 1) := by decide +kernel
theorem d_Lw_read_22 : decode method_8_code 22 = .ok (.ireturn, 1) := by decide +kernel
def y_Lw_state : MethodName := ⟨"PatchStoreLaw", "state", "(LPatchStore;II[J)I"⟩
abbrev c_Lw_state : Cond := (Jvm.Cond.codeWith ({ cls := "PatchStoreLaw", name := "state", desc := "(LPatchStore;II[J)I" } : Jvm.MethodName) method_14_code (5 : Nat) (Option.some Jvm.ClassFile.FieldType.int) [((0 : Nat), (10 : Nat), (13 : Nat), (25 : Nat)), ((0 : Nat), (10 : Nat), (17 : Nat), (54 : Nat))])
abbrev ws_Lw_state : List Cond := c_Lw_state :: xg_1
theorem d_Lw_state_0 : decode method_14_code 0 = .ok (.aload_n 3, 1) := by decide +kernel
theorem d_Lw_state_1 : decode method_14_code 1 = .ok (.iconst 0, 1) := by decide +kernel
theorem d_Lw_state_2 : decode method_14_code 2 = .ok (.aload_n 0, 1) := by decide +kernel
theorem d_Lw_state_3 : decode method_14_code 3 = .ok (.iload_n 1, 1) := by decide +kernel
theorem d_Lw_state_4 : decode method_14_code 4 = .ok (.iload_n 2, 1) := by decide +kernel
theorem d_Lw_state_5 : decode method_14_code 5 = .ok (.invokevirtual 56, 3) := by decide +kernel
theorem d_Lw_state_8 : decode method_14_code 8 = .ok (.i2l, 1) := by decide +kernel
theorem d_Lw_state_9 : decode method_14_code 9 = .ok (.lastore, 1) := by decide +kernel
theorem d_Lw_state_10 : decode method_14_code 10 = .ok (.goto 11, 3) := by decide +kernel
theorem d_Lw_state_13 : decode method_14_code 13 = .ok (.astore 4, 2) := by decide +kernel
theorem d_Lw_state_15 : decode method_14_code 15 = .ok (.iconst 1, 1) := by decide +kernel
theorem d_Lw_state_16 : decode method_14_code 16 = .ok (.ireturn, 1) := by decide +kernel
theorem d_Lw_state_17 : decode method_14_code 17 = .ok (.astore 4, 2) := by decide +kernel
theorem d_Lw_state_19 : decode method_14_code 19 = .ok (.iconst 2, 1) := by decide +kernel
theorem d_Lw_state_20 : decode method_14_code 20 = .ok (.ireturn, 1) := by decide +kernel
theorem d_Lw_state_21 : decode method_14_code 21 = .ok (.iconst 0, 1) := by decide +kernel
theorem d_Lw_state_22 : decode method_14_code 22 = .ok (.ireturn, 1) := by decide +kernel
def y_Lw_about : MethodName := ⟨"PatchStoreLaw", "about", "(LPatchStore;II[J)I"⟩
abbrev c_Lw_about : Cond := (Jvm.Cond.codeWith ({ cls := "PatchStoreLaw", name := "about", desc := "(LPatchStore;II[J)I" } : Jvm.MethodName) method_15_code (5 : Nat) (Option.some Jvm.ClassFile.FieldType.int) [((0 : Nat), (10 : Nat), (13 : Nat), (25 : Nat)), ((0 : Nat), (10 : Nat), (17 : Nat), (19 : Nat))])
abbrev ws_Lw_about : List Cond := c_Lw_about :: xg_1
theorem d_Lw_about_0 : decode method_15_code 0 = .ok (.aload_n 3, 1) := by decide +kernel
theorem d_Lw_about_1 : decode method_15_code 1 = .ok (.iconst 0, 1) := by decide +kernel
theorem d_Lw_about_2 : decode method_15_code 2 = .ok (.aload_n 0, 1) := by decide +kernel
theorem d_Lw_about_3 : decode method_15_code 3 = .ok (.iload_n 1, 1) := by decide +kernel
theorem d_Lw_about_4 : decode method_15_code 4 = .ok (.iload_n 2, 1) := by decide +kernel
theorem d_Lw_about_5 : decode method_15_code 5 = .ok (.invokevirtual 59, 3) := by decide +kernel
theorem d_Lw_about_8 : decode method_15_code 8 = .ok (.i2l, 1) := by decide +kernel
theorem d_Lw_about_9 : decode method_15_code 9 = .ok (.lastore, 1) := by decide +kernel
theorem d_Lw_about_10 : decode method_15_code 10 = .ok (.goto 11, 3) := by decide +kernel
theorem d_Lw_about_13 : decode method_15_code 13 = .ok (.astore 4, 2) := by decide +kernel
theorem d_Lw_about_15 : decode method_15_code 15 = .ok (.iconst 1, 1) := by decide +kernel
theorem d_Lw_about_16 : decode method_15_code 16 = .ok (.ireturn, 1) := by decide +kernel
theorem d_Lw_about_17 : decode method_15_code 17 = .ok (.astore 4, 2) := by decide +kernel
theorem d_Lw_about_19 : decode method_15_code 19 = .ok (.iconst 2, 1) := by decide +kernel
theorem d_Lw_about_20 : decode method_15_code 20 = .ok (.ireturn, 1) := by decide +kernel
theorem d_Lw_about_21 : decode method_15_code 21 = .ok (.iconst 0, 1) := by decide +kernel
theorem d_Lw_about_22 : decode method_15_code 22 = .ok (.ireturn, 1) := by decide +kernel
def y_Lw_feed : MethodName := ⟨"PatchStoreLaw", "feed", "(LPatchStore;IIIII[J)I"⟩
abbrev c_Lw_feed : Cond := (Jvm.Cond.codeWith ({ cls := "PatchStoreLaw", name := "feed", desc := "(LPatchStore;IIIII[J)I" } : Jvm.MethodName) method_3_code (8 : Nat) (Option.some Jvm.ClassFile.FieldType.int) [((0 : Nat), (16 : Nat), (19 : Nat), (13 : Nat))])
abbrev ws_Lw_feed : List Cond := c_Lw_feed :: xg_1
theorem d_Lw_feed_0 : decode method_3_code 0 = .ok (.aload 6, 2) := by decide +kernel
theorem d_Lw_feed_2 : decode method_3_code 2 = .ok (.iconst 0, 1) := by decide +kernel
theorem d_Lw_feed_3 : decode method_3_code 3 = .ok (.aload_n 0, 1) := by decide +kernel
theorem d_Lw_feed_4 : decode method_3_code 4 = .ok (.iload_n 1, 1) := by decide +kernel
theorem d_Lw_feed_5 : decode method_3_code 5 = .ok (.iload_n 2, 1) := by decide +kernel
theorem d_Lw_feed_6 : decode method_3_code 6 = .ok (.iload_n 3, 1) := by decide +kernel
theorem d_Lw_feed_7 : decode method_3_code 7 = .ok (.iload 4, 2) := by decide +kernel
theorem d_Lw_feed_9 : decode method_3_code 9 = .ok (.iload 5, 2) := by decide +kernel
theorem d_Lw_feed_11 : decode method_3_code 11 = .ok (.invokevirtual 7, 3) := by decide +kernel
theorem d_Lw_feed_14 : decode method_3_code 14 = .ok (.i2l, 1) := by decide +kernel
theorem d_Lw_feed_15 : decode method_3_code 15 = .ok (.lastore, 1) := by decide +kernel
theorem d_Lw_feed_16 : decode method_3_code 16 = .ok (.goto 7, 3) := by decide +kernel
theorem d_Lw_feed_19 : decode method_3_code 19 = .ok (.astore 7, 2) := by decide +kernel
theorem d_Lw_feed_21 : decode method_3_code 21 = .ok (.iconst 1, 1) := by decide +kernel
theorem d_Lw_feed_22 : decode method_3_code 22 = .ok (.ireturn, 1) := by decide +kernel
theorem d_Lw_feed_23 : decode method_3_code 23 = .ok (.iconst 0, 1) := by decide +kernel
theorem d_Lw_feed_24 : decode method_3_code 24 = .ok (.ireturn, 1) := by decide +kernel
def y_Lw_end : MethodName := ⟨"PatchStoreLaw", "end", "(LPatchStore;I[J)I"⟩
abbrev c_Lw_end : Cond := (Jvm.Cond.codeWith ({ cls := "PatchStoreLaw", name := "end", desc := "(LPatchStore;I[J)I" } : Jvm.MethodName) method_4_code (4 : Nat) (Option.some Jvm.ClassFile.FieldType.int) [((0 : Nat), (9 : Nat), (12 : Nat), (19 : Nat))])
abbrev ws_Lw_end : List Cond := c_Lw_end :: xg_1
theorem d_Lw_end_0 : decode method_4_code 0 = .ok (.aload_n 2, 1) := by decide +kernel
theorem d_Lw_end_1 : decode method_4_code 1 = .ok (.iconst 0, 1) := by decide +kernel
theorem d_Lw_end_2 : decode method_4_code 2 = .ok (.aload_n 0, 1) := by decide +kernel
theorem d_Lw_end_3 : decode method_4_code 3 = .ok (.iload_n 1, 1) := by decide +kernel
theorem d_Lw_end_4 : decode method_4_code 4 = .ok (.invokevirtual 15, 3) := by decide +kernel
theorem d_Lw_end_7 : decode method_4_code 7 = .ok (.i2l, 1) := by decide +kernel
theorem d_Lw_end_8 : decode method_4_code 8 = .ok (.lastore, 1) := by decide +kernel
theorem d_Lw_end_9 : decode method_4_code 9 = .ok (.goto 6, 3) := by decide +kernel
theorem d_Lw_end_12 : decode method_4_code 12 = .ok (.astore_n 3, 1) := by decide +kernel
theorem d_Lw_end_13 : decode method_4_code 13 = .ok (.iconst 1, 1) := by decide +kernel
theorem d_Lw_end_14 : decode method_4_code 14 = .ok (.ireturn, 1) := by decide +kernel
theorem d_Lw_end_15 : decode method_4_code 15 = .ok (.iconst 0, 1) := by decide +kernel
theorem d_Lw_end_16 : decode method_4_code 16 = .ok (.ireturn, 1) := by decide +kernel
/-- which exceptions no other catch takes -/
def xn_L : List (String × String) := [("java/util/NoSuchElementException", "java/lang/IllegalArgumentException"), ("java/util/NoSuchElementException", "java/lang/IllegalStateException"), ("java/util/NoSuchElementException", "java/lang/UnsupportedOperationException"), ("java/util/NoSuchElementException", "java/lang/IndexOutOfBoundsException"), ("java/lang/IllegalArgumentException", "java/util/NoSuchElementException"), ("java/lang/IllegalArgumentException", "java/lang/IllegalStateException"), ("java/lang/IllegalArgumentException", "java/lang/UnsupportedOperationException"), ("java/lang/IllegalArgumentException", "java/lang/IndexOutOfBoundsException"), ("java/lang/IllegalStateException", "java/util/NoSuchElementException"), ("java/lang/IllegalStateException", "java/lang/IllegalArgumentException"), ("java/lang/IllegalStateException", "java/lang/UnsupportedOperationException"), ("java/lang/IllegalStateException", "java/lang/IndexOutOfBoundsException"), ("java/lang/UnsupportedOperationException", "java/util/NoSuchElementException"), ("java/lang/UnsupportedOperationException", "java/lang/IllegalArgumentException"), ("java/lang/UnsupportedOperationException", "java/lang/IllegalStateException"), ("java/lang/UnsupportedOperationException", "java/lang/IndexOutOfBoundsException"), ("java/lang/IndexOutOfBoundsException", "java/util/NoSuchElementException"), ("java/lang/IndexOutOfBoundsException", "java/lang/IllegalArgumentException"), ("java/lang/IndexOutOfBoundsException", "java/lang/IllegalStateException"), ("java/lang/IndexOutOfBoundsException", "java/lang/UnsupportedOperationException")]
def xn (U : State) : Prop := ∀ q : String × String, q ∈ xn_L → va_Nc q.1 q.2 U
theorem xn.moved {u U : State} (hvm : u.vm.Alike U.vm) (h : xn u) : xn U := fun q hq => (h q hq).moved hvm
abbrev xw_Pl (dC : Nat → ClassId) (dI : Nat → Nat → Nat) (ty : List (ClassId × FieldType)) (av : List Value) (ws : va_W) (sz : Nat) : Array Value → State → Prop := va_Pc av (fun U => U.heap.size = sz ∧ va_P (dC, dI) classes ws U.heap ∧ va_K (dC, dI) classes ty U ∧ va_D (fun _ => True) ws ∧ xg_N U ∧ xe (va_A ws sz) U U.heap ∧ xn U)
theorem xw_blindl {dC : Nat → ClassId} {dI : Nat → Nat → Nat} {ty : List (ClassId × FieldType)} {av : List Value} {ws : va_W} {sz : Nat} : FrameBlind (xw_Pl dC dI ty av ws sz) := fun a U g mk q => by
  obtain ⟨q0, q1, qP, qK, qD, qN, qE, qn⟩ := q
  have hb := xw_blindx (dC := dC) (dI := dI) (ty := ty) (av := av) (ws := ws) (sz := sz) a U g mk ⟨q0, q1, qP, qK, qD, qN, qE⟩
  obtain ⟨r0, r1, rP, rK, rD, rN, rE⟩ := hb
  exact ⟨r0, r1, rP, rK, rD, rN, rE, qn.moved (u := U) (U := U.calling g mk a) (Vm.Alike.refl U.vm)⟩
set_option maxHeartbeats 4000000 in
set_option maxRecDepth 100000 in
/-- the law's pull -/
theorem m_L_pull (l : Launch) (dC : Nat → ClassId) (dI : Nat → Nat → Nat) (cI cB cL cZ cR : ClassId) (hlt : xl_T l) (h rp rr mb r2 m2 o : Nat) (ps_tape ps_sha ps_stock ps_intake ps_view ps_text ps_maker ps_recording ps_tapeLength ps_lastFault rr_digest rr_version rr_digestVersion r2_digest r2_size r2_version r2_digestVersion : Value) (mw aw ov : Nat → Int64) (g : Nat → Nat) (rf : Nat → Option Nat) (p0 p1 p2 : Int32) (sz : Nat) (hrf : ∀ k, k < 8 → rf k = some (g k)) (hrr_rr : ∀ n, n < 8 → p0 = nI n → g n = rr) (hrr_r2 : ∀ n, n < 8 → p1 = nI n → g n = r2) (hz : ∀ j, j < 8 → mw j = 0) (hz2 : ∀ j, j < 8 → aw j = 0) : xc_Met l y_Lw_pull ws_Lw_pull ({ frames := 16, cells := 3, slots := 18, locals := 500 }) (xw_Pl dC dI [(cI, .int), (cB, .byte), (cL, .long), (cZ, .boolean), (cR, .object "PatchStore$Repository")] [.ref h, .int p0, .int p1, .int p2, .ref o] [(h, .inr (0, [ps_tape, .ref rp, ps_sha, ps_stock, ps_intake, ps_view, ps_text, ps_maker, ps_recording, ps_tapeLength, ps_lastFault])), (rp, .inl (cR, 8, .inr (.inr (.inr (.inr rf))))), (rr, .inr (7, [.ref mb, rr_digest, .int 0, rr_version, rr_digestVersion])), (mb, .inl (cL, 8, .inr (.inl mw))), (r2, .inr (7, [.ref m2, r2_digest, r2_size, r2_version, r2_digestVersion])), (m2, .inl (cL, 8, .inr (.inl aw))), (o, .inl (cL, 1, .inr (.inl ov)))] sz) (xc_Q (S := Nat → Int64) (fun v (u : Nat → Int64) => ((∃ n : Nat, n < 8 ∧ p0 = nI n) ∧ (∃ n : Nat, n < 8 ∧ p1 = nI n) ∧ p2 < 0 ∧ v = some (.int 0) ∧ u 0 = 0) ∨ (v = some (.int 1) ∧ ((¬ ∃ n : Nat, n < 8 ∧ p0 = nI n) ∨ (¬ ∃ n : Nat, n < 8 ∧ p1 = nI n) ∨ ¬ p2 < 0))) (fun _ _ => False) (fun u t => xw_B dC dI [(cI, .int), (cB, .byte), (cL, .long), (cZ, .boolean), (cR, .object "PatchStore$Repository")] (va_A [(h, .inr (0, [ps_tape, .ref rp, ps_sha, ps_stock, ps_intake, ps_view, ps_text, ps_maker, ps_recording, ps_tapeLength, ps_lastFault])), (rp, .inl (cR, 8, .inr (.inr (.inr (.inr rf))))), (rr, .inr (7, [.ref mb, rr_digest, .int 0, rr_version, rr_digestVersion])), (mb, .inl (cL, 8, .inr (.inl mw))), (r2, .inr (7, [.ref m2, r2_digest, r2_size, r2_version, r2_digestVersion])), (m2, .inl (cL, 8, .inr (.inl aw))), (o, .inl (cL, 1, .inr (.inl ov)))] sz) [(o, .inl (cL, 1, .inr (.inl u)))] t) (va_A [(h, .inr (0, [ps_tape, .ref rp, ps_sha, ps_stock, ps_intake, ps_view, ps_text, ps_maker, ps_recording, ps_tapeLength, ps_lastFault])), (rp, .inl (cR, 8, .inr (.inr (.inr (.inr rf))))), (rr, .inr (7, [.ref mb, rr_digest, .int 0, rr_version, rr_digestVersion])), (mb, .inl (cL, 8, .inr (.inl mw))), (r2, .inr (7, [.ref m2, r2_digest, r2_size, r2_version, r2_digestVersion])), (m2, .inl (cL, 8, .inr (.inl aw))), (o, .inl (cL, 1, .inr (.inl ov)))] sz)) 3 18 (va_A [(h, .inr (0, [ps_tape, .ref rp, ps_sha, ps_stock, ps_intake, ps_view, ps_text, ps_maker, ps_recording, ps_tapeLength, ps_lastFault])), (rp, .inl (cR, 8, .inr (.inr (.inr (.inr rf))))), (rr, .inr (7, [.ref mb, rr_digest, .int 0, rr_version, rr_digestVersion])), (mb, .inl (cL, 8, .inr (.inl mw))), (r2, .inr (7, [.ref m2, r2_digest, r2_size, r2_version, r2_digestVersion])), (m2, .inl (cL, 8, .inr (.inl aw))), (o, .inl (cL, 1, .inr (.inl ov)))] sz) := by
  refine xc_ofWH (cc := method_10_code) (maxL := 6) (ret := (Option.some Jvm.ClassFile.FieldType.int)) (hh := [((0 : Nat), (12 : Nat), (15 : Nat), (25 : Nat))]) (by decide) rfl ?_
  intro p e s m args below meth c s₁ B hml hrows hv
  obtain ⟨rfl, hsz, hP, hK, hD0, hN, hTh, hNc⟩ := hv
  have hx := B.exec
  have hb := B.bytes
  have hr := B.returns
  have hts0 := atoms_spec (ws := ws_Lw_pull) B.pre
  have hts : ∀ w ∈ xg_1, w.before _ s = true := fun w h => hts0 w (List.mem_cons_of_mem _ h)
  have hown : s.vm.findClass "PatchStoreLaw" = some m.cls := findClass_of_methodNamed B.named
  have hlocks := B.notSynchronized
  subst hsz
  have hD := hD0.self (sz := s.heap.size)
  generalize hAe : va_A [(h, .inr (0, [ps_tape, .ref rp, ps_sha, ps_stock, ps_intake, ps_view, ps_text, ps_maker, ps_recording, ps_tapeLength, ps_lastFault])), (rp, .inl (cR, 8, .inr (.inr (.inr (.inr rf))))), (rr, .inr (7, [.ref mb, rr_digest, .int 0, rr_version, rr_digestVersion])), (mb, .inl (cL, 8, .inr (.inl mw))), (r2, .inr (7, [.ref m2, r2_digest, r2_size, r2_version, r2_digestVersion])), (m2, .inl (cL, 8, .inr (.inl aw))), (o, .inl (cL, 1, .inr (.inl ov)))] s.heap.size = A at hD hTh ⊢
  have hA : ∀ q : Nat, s.heap.size ≤ q → A q := fun q h => by rw [← hAe]; exact Or.inr h
  have hS : va_S A s.heap s.heap [] := va_S.rf
  have hl := lv_entry ([.ref h, .int p0, .int p1, .int p2, .ref o]) (n := 6) (Nat.le_of_ble_eq_true rfl)
  rw [lg_entry_eq]
  generalize (lg_sl ([.ref h, .int p0, .int p1, .int p2, .ref o]) ++ List.replicate (6 - (lg_sl ([.ref h, .int p0, .int p1, .int p2, .ref o])).length) Slot.unset).toArray = ls at hl ⊢
  have hl : lv_has ls 6 [(0, .ref h), (1, .int p0), (2, .int p1), (3, .int p2), (4, .ref o)] := hl
  refine lv_aload hx hb d_Lw_pull_0 (lv_at hl 4 rfl) ?_
  refine lv_iconst (v := 0) hx hb d_Lw_pull_2 (by decide) ?_
  refine lv_aload_n hx hb d_Lw_pull_3 rfl (lv_at hl 0 rfl) ?_
  refine lv_iload_n hx hb d_Lw_pull_4 rfl (lv_at hl 1 rfl) ?_
  refine lv_iload_n hx hb d_Lw_pull_5 rfl (lv_at hl 2 rfl) ?_
  refine lv_iload_n hx hb d_Lw_pull_6 rfl (lv_at hl 3 rfl) ?_
  have hPc := hP.sub (ws' := [(h, .inr (0, [ps_tape, .ref rp, ps_sha, ps_stock, ps_intake, ps_view, ps_text, ps_maker, ps_recording, ps_tapeLength, ps_lastFault])), (rp, .inl (cR, 8, .inr (.inr (.inr (.inr rf))))), (rr, .inr (7, [.ref mb, rr_digest, .int 0, rr_version, rr_digestVersion])), (mb, .inl (cL, 8, .inr (.inl mw))), (r2, .inr (7, [.ref m2, r2_digest, r2_size, r2_version, r2_digestVersion])), (m2, .inl (cL, 8, .inr (.inl aw)))]) [0, 1, 2, 3, 4, 5] rfl
  have hDc := hD.sub (ws' := [(h, .inr (0, [ps_tape, .ref rp, ps_sha, ps_stock, ps_intake, ps_view, ps_text, ps_maker, ps_recording, ps_tapeLength, ps_lastFault])), (rp, .inl (cR, 8, .inr (.inr (.inr (.inr rf))))), (rr, .inr (7, [.ref mb, rr_digest, .int 0, rr_version, rr_digestVersion])), (mb, .inl (cL, 8, .inr (.inl mw))), (r2, .inr (7, [.ref m2, r2_digest, r2_size, r2_version, r2_digestVersion])), (m2, .inl (cL, 8, .inr (.inl aw)))]) [0, 1, 2, 3, 4, 5] (by decide) rfl
  have hFc := va_free (wc := [(h, .inr (0, [ps_tape, .ref rp, ps_sha, ps_stock, ps_intake, ps_view, ps_text, ps_maker, ps_recording, ps_tapeLength, ps_lastFault])), (rp, .inl (cR, 8, .inr (.inr (.inr (.inr rf))))), (rr, .inr (7, [.ref mb, rr_digest, .int 0, rr_version, rr_digestVersion])), (mb, .inl (cL, 8, .inr (.inl mw))), (r2, .inr (7, [.ref m2, r2_digest, r2_size, r2_version, r2_digestVersion])), (m2, .inl (cL, 8, .inr (.inl aw)))]) hD hS hA [0, 1, 2, 3, 4, 5] rfl
  refine xc_call (xc_runV (As := [.int p0, .int p1, .int p2]) (rest := [.int 0, .ref o]) (C := "PatchStore") ⟨hx, hb, hml, hown, hts⟩ (m_PS_pull0 l dC dI cI cB cL cZ cR hlt h rp rr mb r2 m2 ps_tape ps_sha ps_stock ps_intake ps_view ps_text ps_maker ps_recording ps_tapeLength ps_lastFault rr_digest rr_version rr_digestVersion r2_digest r2_size r2_version r2_digestVersion mw aw g rf p0 p1 p2 s.heap.size hrf hrr_rr hrr_r2 hz hz2) (xc_bOf 3 hts (xg_in gw_1229) (xc_Is.code (hts _ gw_1229)) rfl rfl (hts _ gw_1) (by decide +kernel) ⟨Nat.le_of_ble_eq_true rfl, Nat.le_of_ble_eq_true rfl⟩) (hts _ gw_1226) (hts _ gw_1227) (hts _ gw_1228) ⟨xw_blindx, va_recv hK hPc (ci := 0) (q0 := 0) rfl rfl, fun U hU hW => ⟨rfl, by rw [hU], by rw [hU]; exact hPc, va_K.moved hW.alike hK, hDc.weaken (fun _ _ _ _ => trivial), xg_N.warm hW hN, by rw [hU]; exact ((hTh.kept (fun a h1 h2 => hS.2.1 a h1 h2)).narrow hFc).moved hW.alike⟩⟩ rfl rfl hl.1 rfl (lv_room (Nat.le_of_ble_eq_true rfl)) d_Lw_pull_7 ⟨Nat.le_of_ble_eq_true rfl, Nat.le_of_ble_eq_true rfl⟩) hS (fun q _ h => hFc q h) hFc (fun v9 u t H1 locs ht hvm hw hB hz1 hk1 hS => ?_) (fun x9 C9 u t H1 locs ht hvm hw hex hB hz1 hk1 hS => ?_)
  · obtain ⟨g1, g2, g3, rfl⟩ := hw
    have hP1 : va_P (dC, dI) classes [] H1 := fun k q h => by simp at h
    have hD1 : va_D (va_A [(h, .inr (0, [ps_tape, .ref rp, ps_sha, ps_stock, ps_intake, ps_view, ps_text, ps_maker, ps_recording, ps_tapeLength, ps_lastFault])), (rp, .inl (cR, 8, .inr (.inr (.inr (.inr rf))))), (rr, .inr (7, [.ref mb, rr_digest, .int 0, rr_version, rr_digestVersion])), (mb, .inl (cL, 8, .inr (.inl mw))), (r2, .inr (7, [.ref m2, r2_digest, r2_size, r2_version, r2_digestVersion])), (m2, .inl (cL, 8, .inr (.inl aw)))] s.heap.size) [] := ⟨fun i j q r h => by simp at h, fun k q h => by simp at h⟩
    obtain ⟨hP, hD⟩ := va_join (wr := [(o, .inl (cL, 1, .inr (.inl ov)))]) (w1 := []) hP hD [0, 1, 2, 3, 4, 5] [6] rfl rfl (by decide) (by decide) hk1 hFc hP1 hD1
    generalize H1 = H at hP hS ht ⊢
    have hP : va_P (dC, dI) classes [(o, .inl (cL, 1, .inr (.inl ov)))] H := hP
    have hD : va_D A [(o, .inl (cL, 1, .inr (.inl ov)))] := hD
    refine W.eq (g2 := F0 m 10 ls [.int 0, .int 0, .ref o]) rfl ?_
    refine W.widen (k := 3) (n := 18) (Nat.le_of_ble_eq_true rfl) (Nat.le_of_ble_eq_true rfl) ?_
    refine lv_i2l hx hb d_Lw_pull_10 rfl ?_
    refine va_last hx hb hK hP hD hS 0 2 rfl rfl (vp_in_nI (n := 0) (by omega) (by omega)) d_Lw_pull_11 (fun H locs hP hD hS => ?_)
    rw [show (0 : Int32).toNatClampNeg = 0 from rfl] at hP hD
    have hP : va_P (dC, dI) classes [(o, .inl (cL, 1, .inr (.inl (vp_updL ov 0 ((0 : Int32).toInt64)))))] H := hP
    have hD : va_D A [(o, .inl (cL, 1, .inr (.inl (vp_updL ov 0 ((0 : Int32).toInt64)))))] := hD
    refine lv_goto (tgt := 19) hx hb d_Lw_pull_12 (by decide) ?_
    refine lv_iconst (v := 0) hx hb d_Lw_pull_19 (by decide) ?_
    refine W.widen (k := 3) (n := 18) (Nat.le_of_ble_eq_true rfl) (Nat.le_of_ble_eq_true rfl) ?_
    exact xc_ret (W.iret (v := 0) hx hb hr (fun t ht hW => ⟨Or.inl ⟨_, vp_updL ov 0 ((0 : Int32).toInt64), rfl, Or.inl ⟨g1, g2, g3, rfl, rfl⟩, (by rw [ht]; exact hP), va_K.moved hW.alike hK, hD⟩, hS.F ht⟩) hS.2.2 d_Lw_pull_20)
  · skip
    have hP1 : va_P (dC, dI) classes [] H1 := fun k q h => by simp at h
    have hD1 : va_D (va_A [(h, .inr (0, [ps_tape, .ref rp, ps_sha, ps_stock, ps_intake, ps_view, ps_text, ps_maker, ps_recording, ps_tapeLength, ps_lastFault])), (rp, .inl (cR, 8, .inr (.inr (.inr (.inr rf))))), (rr, .inr (7, [.ref mb, rr_digest, .int 0, rr_version, rr_digestVersion])), (mb, .inl (cL, 8, .inr (.inl mw))), (r2, .inr (7, [.ref m2, r2_digest, r2_size, r2_version, r2_digestVersion])), (m2, .inl (cL, 8, .inr (.inl aw)))] s.heap.size) [] := ⟨fun i j q r h => by simp at h, fun k q h => by simp at h⟩
    obtain ⟨hP, hD⟩ := va_join (wr := [(o, .inl (cL, 1, .inr (.inl ov)))]) (w1 := []) hP hD [0, 1, 2, 3, 4, 5] [6] rfl rfl (by decide) (by decide) hk1 hFc hP1 hD1
    generalize H1 = H at hP hS ht ⊢
    have hP : va_P (dC, dI) classes [(o, .inl (cL, 1, .inr (.inl ov)))] H := hP
    have hD : va_D A [(o, .inl (cL, 1, .inr (.inl ov)))] := hD
    obtain ⟨rfl, hb9⟩ := hw
    skip
    refine xc_catch (tgt := 15) hown hrows ht hvm hex ⟨⟨by decide, by decide⟩, by decide, "java/util/NoSuchElementException", hts _ gw_695, Or.inl ⟨va_Nw.use rfl (hN _ gn_706), rfl⟩⟩ ?_
    refine lv_astore (lv' := [(5, .ref x9), (0, .ref h), (1, .int p0), (2, .int p1), (3, .int p2), (4, .ref o)]) hx hb d_Lw_pull_15 hl (by decide) rfl (fun ls hl => ?_)
    refine lv_iconst (v := 1) hx hb d_Lw_pull_17 (by decide) ?_
    refine W.widen (k := 3) (n := 18) (Nat.le_of_ble_eq_true rfl) (Nat.le_of_ble_eq_true rfl) ?_
    exact xc_ret (W.iret (v := 1) hx hb hr (fun t ht hW => ⟨Or.inl ⟨_, ov, rfl, Or.inr ⟨rfl, hb9⟩, (by rw [ht]; exact hP), va_K.moved hW.alike hK, hD⟩, hS.F ht⟩) hS.2.2 d_Lw_pull_18)
set_option maxHeartbeats 4000000 in
set_option maxRecDepth 100000 in
/-- the law's pull from itself -/
theorem m_L_pulls (l : Launch) (dC : Nat → ClassId) (dI : Nat → Nat → Nat) (cI cB cL cZ cR : ClassId) (hlt : xl_T l) (h rp rr mb o : Nat) (ps_tape ps_sha ps_stock ps_intake ps_view ps_text ps_maker ps_recording ps_tapeLength ps_lastFault rr_digest rr_version rr_digestVersion : Value) (mw ov : Nat → Int64) (g : Nat → Nat) (rf : Nat → Option Nat) (p0 p2 : Int32) (sz : Nat) (hrf : ∀ k, k < 8 → rf k = some (g k)) (hrr_rr : ∀ n, n < 8 → p0 = nI n → g n = rr) (hz : ∀ j, j < 8 → mw j = 0) : xc_Met l y_Lw_pull ws_Lw_pull ({ frames := 16, cells := 3, slots := 18, locals := 500 }) (xw_Pl dC dI [(cI, .int), (cB, .byte), (cL, .long), (cZ, .boolean), (cR, .object "PatchStore$Repository")] [.ref h, .int p0, .int p0, .int p2, .ref o] [(h, .inr (0, [ps_tape, .ref rp, ps_sha, ps_stock, ps_intake, ps_view, ps_text, ps_maker, ps_recording, ps_tapeLength, ps_lastFault])), (rp, .inl (cR, 8, .inr (.inr (.inr (.inr rf))))), (rr, .inr (7, [.ref mb, rr_digest, .int 0, rr_version, rr_digestVersion])), (mb, .inl (cL, 8, .inr (.inl mw))), (o, .inl (cL, 1, .inr (.inl ov)))] sz) (xc_Q (S := Nat → Int64) (fun v (u : Nat → Int64) => ((∃ n : Nat, n < 8 ∧ p0 = nI n) ∧ (∃ n : Nat, n < 8 ∧ p0 = nI n) ∧ p2 < 0 ∧ v = some (.int 0) ∧ u 0 = 0) ∨ (v = some (.int 1) ∧ ((¬ ∃ n : Nat, n < 8 ∧ p0 = nI n) ∨ (¬ ∃ n : Nat, n < 8 ∧ p0 = nI n) ∨ ¬ p2 < 0))) (fun _ _ => False) (fun u t => xw_B dC dI [(cI, .int), (cB, .byte), (cL, .long), (cZ, .boolean), (cR, .object "PatchStore$Repository")] (va_A [(h, .inr (0, [ps_tape, .ref rp, ps_sha, ps_stock, ps_intake, ps_view, ps_text, ps_maker, ps_recording, ps_tapeLength, ps_lastFault])), (rp, .inl (cR, 8, .inr (.inr (.inr (.inr rf))))), (rr, .inr (7, [.ref mb, rr_digest, .int 0, rr_version, rr_digestVersion])), (mb, .inl (cL, 8, .inr (.inl mw))), (o, .inl (cL, 1, .inr (.inl ov)))] sz) [(o, .inl (cL, 1, .inr (.inl u)))] t) (va_A [(h, .inr (0, [ps_tape, .ref rp, ps_sha, ps_stock, ps_intake, ps_view, ps_text, ps_maker, ps_recording, ps_tapeLength, ps_lastFault])), (rp, .inl (cR, 8, .inr (.inr (.inr (.inr rf))))), (rr, .inr (7, [.ref mb, rr_digest, .int 0, rr_version, rr_digestVersion])), (mb, .inl (cL, 8, .inr (.inl mw))), (o, .inl (cL, 1, .inr (.inl ov)))] sz)) 3 18 (va_A [(h, .inr (0, [ps_tape, .ref rp, ps_sha, ps_stock, ps_intake, ps_view, ps_text, ps_maker, ps_recording, ps_tapeLength, ps_lastFault])), (rp, .inl (cR, 8, .inr (.inr (.inr (.inr rf))))), (rr, .inr (7, [.ref mb, rr_digest, .int 0, rr_version, rr_digestVersion])), (mb, .inl (cL, 8, .inr (.inl mw))), (o, .inl (cL, 1, .inr (.inl ov)))] sz) := by
  refine xc_ofWH (cc := method_10_code) (maxL := 6) (ret := (Option.some Jvm.ClassFile.FieldType.int)) (hh := [((0 : Nat), (12 : Nat), (15 : Nat), (25 : Nat))]) (by decide) rfl ?_
  intro p e s m args below meth c s₁ B hml hrows hv
  obtain ⟨rfl, hsz, hP, hK, hD0, hN, hTh, hNc⟩ := hv
  have hx := B.exec
  have hb := B.bytes
  have hr := B.returns
  have hts0 := atoms_spec (ws := ws_Lw_pull) B.pre
  have hts : ∀ w ∈ xg_1, w.before _ s = true := fun w h => hts0 w (List.mem_cons_of_mem _ h)
  have hown : s.vm.findClass "PatchStoreLaw" = some m.cls := findClass_of_methodNamed B.named
  have hlocks := B.notSynchronized
  subst hsz
  have hD := hD0.self (sz := s.heap.size)
  generalize hAe : va_A [(h, .inr (0, [ps_tape, .ref rp, ps_sha, ps_stock, ps_intake, ps_view, ps_text, ps_maker, ps_recording, ps_tapeLength, ps_lastFault])), (rp, .inl (cR, 8, .inr (.inr (.inr (.inr rf))))), (rr, .inr (7, [.ref mb, rr_digest, .int 0, rr_version, rr_digestVersion])), (mb, .inl (cL, 8, .inr (.inl mw))), (o, .inl (cL, 1, .inr (.inl ov)))] s.heap.size = A at hD hTh ⊢
  have hA : ∀ q : Nat, s.heap.size ≤ q → A q := fun q h => by rw [← hAe]; exact Or.inr h
  have hS : va_S A s.heap s.heap [] := va_S.rf
  have hl := lv_entry ([.ref h, .int p0, .int p0, .int p2, .ref o]) (n := 6) (Nat.le_of_ble_eq_true rfl)
  rw [lg_entry_eq]
  generalize (lg_sl ([.ref h, .int p0, .int p0, .int p2, .ref o]) ++ List.replicate (6 - (lg_sl ([.ref h, .int p0, .int p0, .int p2, .ref o])).length) Slot.unset).toArray = ls at hl ⊢
  have hl : lv_has ls 6 [(0, .ref h), (1, .int p0), (2, .int p0), (3, .int p2), (4, .ref o)] := hl
  refine lv_aload hx hb d_Lw_pull_0 (lv_at hl 4 rfl) ?_
  refine lv_iconst (v := 0) hx hb d_Lw_pull_2 (by decide) ?_
  refine lv_aload_n hx hb d_Lw_pull_3 rfl (lv_at hl 0 rfl) ?_
  refine lv_iload_n hx hb d_Lw_pull_4 rfl (lv_at hl 1 rfl) ?_
  refine lv_iload_n hx hb d_Lw_pull_5 rfl (lv_at hl 2 rfl) ?_
  refine lv_iload_n hx hb d_Lw_pull_6 rfl (lv_at hl 3 rfl) ?_
  have hPc := hP.sub (ws' := [(h, .inr (0, [ps_tape, .ref rp, ps_sha, ps_stock, ps_intake, ps_view, ps_text, ps_maker, ps_recording, ps_tapeLength, ps_lastFault])), (rp, .inl (cR, 8, .inr (.inr (.inr (.inr rf))))), (rr, .inr (7, [.ref mb, rr_digest, .int 0, rr_version, rr_digestVersion])), (mb, .inl (cL, 8, .inr (.inl mw)))]) [0, 1, 2, 3] rfl
  have hDc := hD.sub (ws' := [(h, .inr (0, [ps_tape, .ref rp, ps_sha, ps_stock, ps_intake, ps_view, ps_text, ps_maker, ps_recording, ps_tapeLength, ps_lastFault])), (rp, .inl (cR, 8, .inr (.inr (.inr (.inr rf))))), (rr, .inr (7, [.ref mb, rr_digest, .int 0, rr_version, rr_digestVersion])), (mb, .inl (cL, 8, .inr (.inl mw)))]) [0, 1, 2, 3] (by decide) rfl
  have hFc := va_free (wc := [(h, .inr (0, [ps_tape, .ref rp, ps_sha, ps_stock, ps_intake, ps_view, ps_text, ps_maker, ps_recording, ps_tapeLength, ps_lastFault])), (rp, .inl (cR, 8, .inr (.inr (.inr (.inr rf))))), (rr, .inr (7, [.ref mb, rr_digest, .int 0, rr_version, rr_digestVersion])), (mb, .inl (cL, 8, .inr (.inl mw)))]) hD hS hA [0, 1, 2, 3] rfl
  refine xc_call (xc_runV (As := [.int p0, .int p0, .int p2]) (rest := [.int 0, .ref o]) (C := "PatchStore") ⟨hx, hb, hml, hown, hts⟩ (m_PS_pull0s l dC dI cI cB cL cZ cR hlt h rp rr mb ps_tape ps_sha ps_stock ps_intake ps_view ps_text ps_maker ps_recording ps_tapeLength ps_lastFault rr_digest rr_version rr_digestVersion mw g rf p0 p2 s.heap.size hrf hrr_rr hz) (xc_bOf 3 hts (xg_in gw_1229) (xc_Is.code (hts _ gw_1229)) rfl rfl (hts _ gw_1) (by decide +kernel) ⟨Nat.le_of_ble_eq_true rfl, Nat.le_of_ble_eq_true rfl⟩) (hts _ gw_1226) (hts _ gw_1227) (hts _ gw_1228) ⟨xw_blindx, va_recv hK hPc (ci := 0) (q0 := 0) rfl rfl, fun U hU hW => ⟨rfl, by rw [hU], by rw [hU]; exact hPc, va_K.moved hW.alike hK, hDc.weaken (fun _ _ _ _ => trivial), xg_N.warm hW hN, by rw [hU]; exact ((hTh.kept (fun a h1 h2 => hS.2.1 a h1 h2)).narrow hFc).moved hW.alike⟩⟩ rfl rfl hl.1 rfl (lv_room (Nat.le_of_ble_eq_true rfl)) d_Lw_pull_7 ⟨Nat.le_of_ble_eq_true rfl, Nat.le_of_ble_eq_true rfl⟩) hS (fun q _ h => hFc q h) hFc (fun v9 u t H1 locs ht hvm hw hB hz1 hk1 hS => ?_) (fun x9 C9 u t H1 locs ht hvm hw hex hB hz1 hk1 hS => ?_)
  · obtain ⟨g1, g2, g3, rfl⟩ := hw
    have hP1 : va_P (dC, dI) classes [] H1 := fun k q h => by simp at h
    have hD1 : va_D (va_A [(h, .inr (0, [ps_tape, .ref rp, ps_sha, ps_stock, ps_intake, ps_view, ps_text, ps_maker, ps_recording, ps_tapeLength, ps_lastFault])), (rp, .inl (cR, 8, .inr (.inr (.inr (.inr rf))))), (rr, .inr (7, [.ref mb, rr_digest, .int 0, rr_version, rr_digestVersion])), (mb, .inl (cL, 8, .inr (.inl mw)))] s.heap.size) [] := ⟨fun i j q r h => by simp at h, fun k q h => by simp at h⟩
    obtain ⟨hP, hD⟩ := va_join (wr := [(o, .inl (cL, 1, .inr (.inl ov)))]) (w1 := []) hP hD [0, 1, 2, 3] [4] rfl rfl (by decide) (by decide) hk1 hFc hP1 hD1
    generalize H1 = H at hP hS ht ⊢
    have hP : va_P (dC, dI) classes [(o, .inl (cL, 1, .inr (.inl ov)))] H := hP
    have hD : va_D A [(o, .inl (cL, 1, .inr (.inl ov)))] := hD
    refine W.eq (g2 := F0 m 10 ls [.int 0, .int 0, .ref o]) rfl ?_
    refine W.widen (k := 3) (n := 18) (Nat.le_of_ble_eq_true rfl) (Nat.le_of_ble_eq_true rfl) ?_
    refine lv_i2l hx hb d_Lw_pull_10 rfl ?_
    refine va_last hx hb hK hP hD hS 0 2 rfl rfl (vp_in_nI (n := 0) (by omega) (by omega)) d_Lw_pull_11 (fun H locs hP hD hS => ?_)
    rw [show (0 : Int32).toNatClampNeg = 0 from rfl] at hP hD
    have hP : va_P (dC, dI) classes [(o, .inl (cL, 1, .inr (.inl (vp_updL ov 0 ((0 : Int32).toInt64)))))] H := hP
    have hD : va_D A [(o, .inl (cL, 1, .inr (.inl (vp_updL ov 0 ((0 : Int32).toInt64)))))] := hD
    refine lv_goto (tgt := 19) hx hb d_Lw_pull_12 (by decide) ?_
    refine lv_iconst (v := 0) hx hb d_Lw_pull_19 (by decide) ?_
    refine W.widen (k := 3) (n := 18) (Nat.le_of_ble_eq_true rfl) (Nat.le_of_ble_eq_true rfl) ?_
    exact xc_ret (W.iret (v := 0) hx hb hr (fun t ht hW => ⟨Or.inl ⟨_, vp_updL ov 0 ((0 : Int32).toInt64), rfl, Or.inl ⟨g1, g2, g3, rfl, rfl⟩, (by rw [ht]; exact hP), va_K.moved hW.alike hK, hD⟩, hS.F ht⟩) hS.2.2 d_Lw_pull_20)
  · skip
    have hP1 : va_P (dC, dI) classes [] H1 := fun k q h => by simp at h
    have hD1 : va_D (va_A [(h, .inr (0, [ps_tape, .ref rp, ps_sha, ps_stock, ps_intake, ps_view, ps_text, ps_maker, ps_recording, ps_tapeLength, ps_lastFault])), (rp, .inl (cR, 8, .inr (.inr (.inr (.inr rf))))), (rr, .inr (7, [.ref mb, rr_digest, .int 0, rr_version, rr_digestVersion])), (mb, .inl (cL, 8, .inr (.inl mw)))] s.heap.size) [] := ⟨fun i j q r h => by simp at h, fun k q h => by simp at h⟩
    obtain ⟨hP, hD⟩ := va_join (wr := [(o, .inl (cL, 1, .inr (.inl ov)))]) (w1 := []) hP hD [0, 1, 2, 3] [4] rfl rfl (by decide) (by decide) hk1 hFc hP1 hD1
    generalize H1 = H at hP hS ht ⊢
    have hP : va_P (dC, dI) classes [(o, .inl (cL, 1, .inr (.inl ov)))] H := hP
    have hD : va_D A [(o, .inl (cL, 1, .inr (.inl ov)))] := hD
    obtain ⟨rfl, hb9⟩ := hw
    skip
    refine xc_catch (tgt := 15) hown hrows ht hvm hex ⟨⟨by decide, by decide⟩, by decide, "java/util/NoSuchElementException", hts _ gw_695, Or.inl ⟨va_Nw.use rfl (hN _ gn_706), rfl⟩⟩ ?_
    refine lv_astore (lv' := [(5, .ref x9), (0, .ref h), (1, .int p0), (2, .int p0), (3, .int p2), (4, .ref o)]) hx hb d_Lw_pull_15 hl (by decide) rfl (fun ls hl => ?_)
    refine lv_iconst (v := 1) hx hb d_Lw_pull_17 (by decide) ?_
    refine W.widen (k := 3) (n := 18) (Nat.le_of_ble_eq_true rfl) (Nat.le_of_ble_eq_true rfl) ?_
    exact xc_ret (W.iret (v := 1) hx hb hr (fun t ht hW => ⟨Or.inl ⟨_, ov, rfl, Or.inr ⟨rfl, hb9⟩, (by rw [ht]; exact hP), va_K.moved hW.alike hK, hD⟩, hS.F ht⟩) hS.2.2 d_Lw_pull_18)
set_option maxHeartbeats 4000000 in
set_option maxRecDepth 100000 in
/-- the law's call -/
theorem m_L_call (l : Launch) (dC : Nat → ClassId) (dI : Nat → Nat → Nat) (cI cB cL cZ cR : ClassId) (hlt : xl_T l) (h rp vw tx no rr sk o : Nat) (ps_tape ps_sha ps_stock ps_intake ps_maker ps_recording ps_tapeLength ps_lastFault vw_files vw_namings vw_changes vw_over vw_heads vw_nexts vw_sharing rr_members rr_digest rr_size rr_digestVersion sk_bytes sk_from sk_firstDependency sk_firstChange sk_dependencies sk_hashes sk_byHash sk_leansOn sk_leantBy sk_changes sk_lines : Value) (ver : Int32) (f0 : Nat → Int32) (ov : Nat → Int64) (g : Nat → Nat) (rf : Nat → Option Nat) (p0 p1 : Int32) (sz : Nat) (hrf : ∀ k, k < 8 → rf k = some (g k)) (hrr_rr : ∀ n, n < 8 → p0 = nI n → g n = rr) : xc_Met l y_Lw_call ws_Lw_call ({ frames := 16, cells := 3, slots := 18, locals := 500 }) (xw_Pl dC dI [(cI, .int), (cB, .byte), (cL, .long), (cZ, .boolean), (cR, .object "PatchStore$Repository")] [.ref h, .int p0, .int p1, .ref o] [(h, .inr (0, [ps_tape, .ref rp, ps_sha, ps_stock, ps_intake, .ref vw, .ref tx, ps_maker, ps_recording, ps_tapeLength, ps_lastFault])), (rp, .inl (cR, 8, .inr (.inr (.inr (.inr rf))))), (vw, .inr (11, [vw_files, .ref no, vw_namings, .int 0, .int 0, .ref sk, vw_changes, .null, .int 0, vw_over, .int 0, vw_heads, vw_nexts, vw_sharing])), (no, .inl (cI, 200, .inl f0)), (rr, .inr (7, [rr_members, rr_digest, rr_size, .int ver, rr_digestVersion])), (sk, .inr (9, [sk_bytes, sk_from, sk_firstDependency, sk_firstChange, sk_dependencies, sk_hashes, sk_byHash, sk_leansOn, sk_leantBy, sk_changes, sk_lines, .int 0])), (o, .inl (cL, 1, .inr (.inl ov)))] sz) (xc_Q (S := Nat → Int64) (fun v (_ : Nat → Int64) => v = some (.int 1)) (fun _ _ => False) (fun u t => xw_B dC dI [(cI, .int), (cB, .byte), (cL, .long), (cZ, .boolean), (cR, .object "PatchStore$Repository")] (va_A [(h, .inr (0, [ps_tape, .ref rp, ps_sha, ps_stock, ps_intake, .ref vw, .ref tx, ps_maker, ps_recording, ps_tapeLength, ps_lastFault])), (rp, .inl (cR, 8, .inr (.inr (.inr (.inr rf))))), (vw, .inr (11, [vw_files, .ref no, vw_namings, .int 0, .int 0, .ref sk, vw_changes, .null, .int 0, vw_over, .int 0, vw_heads, vw_nexts, vw_sharing])), (no, .inl (cI, 200, .inl f0)), (rr, .inr (7, [rr_members, rr_digest, rr_size, .int ver, rr_digestVersion])), (sk, .inr (9, [sk_bytes, sk_from, sk_firstDependency, sk_firstChange, sk_dependencies, sk_hashes, sk_byHash, sk_leansOn, sk_leantBy, sk_changes, sk_lines, .int 0])), (o, .inl (cL, 1, .inr (.inl ov)))] sz) [(o, .inl (cL, 1, .inr (.inl u)))] t) (va_A [(h, .inr (0, [ps_tape, .ref rp, ps_sha, ps_stock, ps_intake, .ref vw, .ref tx, ps_maker, ps_recording, ps_tapeLength, ps_lastFault])), (rp, .inl (cR, 8, .inr (.inr (.inr (.inr rf))))), (vw, .inr (11, [vw_files, .ref no, vw_namings, .int 0, .int 0, .ref sk, vw_changes, .null, .int 0, vw_over, .int 0, vw_heads, vw_nexts, vw_sharing])), (no, .inl (cI, 200, .inl f0)), (rr, .inr (7, [rr_members, rr_digest, rr_size, .int ver, rr_digestVersion])), (sk, .inr (9, [sk_bytes, sk_from, sk_firstDependency, sk_firstChange, sk_dependencies, sk_hashes, sk_byHash, sk_leansOn, sk_leantBy, sk_changes, sk_lines, .int 0])), (o, .inl (cL, 1, .inr (.inl ov)))] sz)) 3 18 (va_A [(h, .inr (0, [ps_tape, .ref rp, ps_sha, ps_stock, ps_intake, .ref vw, .ref tx, ps_maker, ps_recording, ps_tapeLength, ps_lastFault])), (rp, .inl (cR, 8, .inr (.inr (.inr (.inr rf))))), (vw, .inr (11, [vw_files, .ref no, vw_namings, .int 0, .int 0, .ref sk, vw_changes, .null, .int 0, vw_over, .int 0, vw_heads, vw_nexts, vw_sharing])), (no, .inl (cI, 200, .inl f0)), (rr, .inr (7, [rr_members, rr_digest, rr_size, .int ver, rr_digestVersion])), (sk, .inr (9, [sk_bytes, sk_from, sk_firstDependency, sk_firstChange, sk_dependencies, sk_hashes, sk_byHash, sk_leansOn, sk_leantBy, sk_changes, sk_lines, .int 0])), (o, .inl (cL, 1, .inr (.inl ov)))] sz) := by
  refine xc_ofWH (cc := method_6_code) (maxL := 5) (ret := (Option.some Jvm.ClassFile.FieldType.int)) (hh := [((0 : Nat), (10 : Nat), (13 : Nat), (25 : Nat)), ((0 : Nat), (10 : Nat), (17 : Nat), (19 : Nat)), ((0 : Nat), (10 : Nat), (21 : Nat), (13 : Nat))]) (by decide) rfl ?_
  intro p e s m args below meth c s₁ B hml hrows hv
  obtain ⟨rfl, hsz, hP, hK, hD0, hN, hTh, hNc⟩ := hv
  have hx := B.exec
  have hb := B.bytes
  have hr := B.returns
  have hts0 := atoms_spec (ws := ws_Lw_call) B.pre
  have hts : ∀ w ∈ xg_1, w.before _ s = true := fun w h => hts0 w (List.mem_cons_of_mem _ h)
  have hown : s.vm.findClass "PatchStoreLaw" = some m.cls := findClass_of_methodNamed B.named
  have hlocks := B.notSynchronized
  subst hsz
  have hD := hD0.self (sz := s.heap.size)
  generalize hAe : va_A [(h, .inr (0, [ps_tape, .ref rp, ps_sha, ps_stock, ps_intake, .ref vw, .ref tx, ps_maker, ps_recording, ps_tapeLength, ps_lastFault])), (rp, .inl (cR, 8, .inr (.inr (.inr (.inr rf))))), (vw, .inr (11, [vw_files, .ref no, vw_namings, .int 0, .int 0, .ref sk, vw_changes, .null, .int 0, vw_over, .int 0, vw_heads, vw_nexts, vw_sharing])), (no, .inl (cI, 200, .inl f0)), (rr, .inr (7, [rr_members, rr_digest, rr_size, .int ver, rr_digestVersion])), (sk, .inr (9, [sk_bytes, sk_from, sk_firstDependency, sk_firstChange, sk_dependencies, sk_hashes, sk_byHash, sk_leansOn, sk_leantBy, sk_changes, sk_lines, .int 0])), (o, .inl (cL, 1, .inr (.inl ov)))] s.heap.size = A at hD hTh ⊢
  have hA : ∀ q : Nat, s.heap.size ≤ q → A q := fun q h => by rw [← hAe]; exact Or.inr h
  have hS : va_S A s.heap s.heap [] := va_S.rf
  have hl := lv_entry ([.ref h, .int p0, .int p1, .ref o]) (n := 5) (Nat.le_of_ble_eq_true rfl)
  rw [lg_entry_eq]
  generalize (lg_sl ([.ref h, .int p0, .int p1, .ref o]) ++ List.replicate (5 - (lg_sl ([.ref h, .int p0, .int p1, .ref o])).length) Slot.unset).toArray = ls at hl ⊢
  have hl : lv_has ls 5 [(0, .ref h), (1, .int p0), (2, .int p1), (3, .ref o)] := hl
  refine lv_aload_n hx hb d_Lw_call_0 rfl (lv_at hl 3 rfl) ?_
  refine lv_iconst (v := 0) hx hb d_Lw_call_1 (by decide) ?_
  refine lv_aload_n hx hb d_Lw_call_2 rfl (lv_at hl 0 rfl) ?_
  refine lv_iload_n hx hb d_Lw_call_3 rfl (lv_at hl 1 rfl) ?_
  refine lv_iload_n hx hb d_Lw_call_4 rfl (lv_at hl 2 rfl) ?_
  have hPc := hP.sub (ws' := [(h, .inr (0, [ps_tape, .ref rp, ps_sha, ps_stock, ps_intake, .ref vw, .ref tx, ps_maker, ps_recording, ps_tapeLength, ps_lastFault])), (rp, .inl (cR, 8, .inr (.inr (.inr (.inr rf))))), (vw, .inr (11, [vw_files, .ref no, vw_namings, .int 0, .int 0, .ref sk, vw_changes, .null, .int 0, vw_over, .int 0, vw_heads, vw_nexts, vw_sharing])), (no, .inl (cI, 200, .inl f0)), (rr, .inr (7, [rr_members, rr_digest, rr_size, .int ver, rr_digestVersion])), (sk, .inr (9, [sk_bytes, sk_from, sk_firstDependency, sk_firstChange, sk_dependencies, sk_hashes, sk_byHash, sk_leansOn, sk_leantBy, sk_changes, sk_lines, .int 0]))]) [0, 1, 2, 3, 4, 5] rfl
  have hDc := hD.sub (ws' := [(h, .inr (0, [ps_tape, .ref rp, ps_sha, ps_stock, ps_intake, .ref vw, .ref tx, ps_maker, ps_recording, ps_tapeLength, ps_lastFault])), (rp, .inl (cR, 8, .inr (.inr (.inr (.inr rf))))), (vw, .inr (11, [vw_files, .ref no, vw_namings, .int 0, .int 0, .ref sk, vw_changes, .null, .int 0, vw_over, .int 0, vw_heads, vw_nexts, vw_sharing])), (no, .inl (cI, 200, .inl f0)), (rr, .inr (7, [rr_members, rr_digest, rr_size, .int ver, rr_digestVersion])), (sk, .inr (9, [sk_bytes, sk_from, sk_firstDependency, sk_firstChange, sk_dependencies, sk_hashes, sk_byHash, sk_leansOn, sk_leantBy, sk_changes, sk_lines, .int 0]))]) [0, 1, 2, 3, 4, 5] (by decide) rfl
  have hFc := va_free (wc := [(h, .inr (0, [ps_tape, .ref rp, ps_sha, ps_stock, ps_intake, .ref vw, .ref tx, ps_maker, ps_recording, ps_tapeLength, ps_lastFault])), (rp, .inl (cR, 8, .inr (.inr (.inr (.inr rf))))), (vw, .inr (11, [vw_files, .ref no, vw_namings, .int 0, .int 0, .ref sk, vw_changes, .null, .int 0, vw_over, .int 0, vw_heads, vw_nexts, vw_sharing])), (no, .inl (cI, 200, .inl f0)), (rr, .inr (7, [rr_members, rr_digest, rr_size, .int ver, rr_digestVersion])), (sk, .inr (9, [sk_bytes, sk_from, sk_firstDependency, sk_firstChange, sk_dependencies, sk_hashes, sk_byHash, sk_leansOn, sk_leantBy, sk_changes, sk_lines, .int 0]))]) hD hS hA [0, 1, 2, 3, 4, 5] rfl
  refine xc_call (xc_runV (As := [.int p0, .int p1]) (rest := [.int 0, .ref o]) (C := "PatchStore") ⟨hx, hb, hml, hown, hts⟩ (m_PS_call0 l dC dI cI cB cL cZ cR hlt h rp vw tx no rr sk ps_tape ps_sha ps_stock ps_intake ps_maker ps_recording ps_tapeLength ps_lastFault vw_files vw_namings vw_changes vw_over vw_heads vw_nexts vw_sharing rr_members rr_digest rr_size rr_digestVersion sk_bytes sk_from sk_firstDependency sk_firstChange sk_dependencies sk_hashes sk_byHash sk_leansOn sk_leantBy sk_changes sk_lines ver f0 g rf p0 p1 s.heap.size hrf hrr_rr) (xc_bOf 2 hts (xg_in gw_990) (xc_Is.code (hts _ gw_990)) rfl rfl (hts _ gw_1) (by decide +kernel) ⟨Nat.le_of_ble_eq_true rfl, Nat.le_of_ble_eq_true rfl⟩) (hts _ gw_987) (hts _ gw_988) (hts _ gw_989) ⟨xw_blindx, va_recv hK hPc (ci := 0) (q0 := 0) rfl rfl, fun U hU hW => ⟨rfl, by rw [hU], by rw [hU]; exact hPc, va_K.moved hW.alike hK, hDc.weaken (fun _ _ _ _ => trivial), xg_N.warm hW hN, by rw [hU]; exact ((hTh.kept (fun a h1 h2 => hS.2.1 a h1 h2)).narrow hFc).moved hW.alike⟩⟩ rfl rfl hl.1 rfl (lv_room (Nat.le_of_ble_eq_true rfl)) d_Lw_call_5 ⟨Nat.le_of_ble_eq_true rfl, Nat.le_of_ble_eq_true rfl⟩) hS (fun q _ h => hFc q h) hFc (fun v9 u t H1 locs ht hvm hw hB hz1 hk1 hS => ?_) (fun x9 C9 u t H1 locs ht hvm hw hex hB hz1 hk1 hS => ?_)
  · skip
    exact False.elim hw
  · skip
    have hP1 : va_P (dC, dI) classes [] H1 := fun k q h => by simp at h
    have hD1 : va_D (va_A [(h, .inr (0, [ps_tape, .ref rp, ps_sha, ps_stock, ps_intake, .ref vw, .ref tx, ps_maker, ps_recording, ps_tapeLength, ps_lastFault])), (rp, .inl (cR, 8, .inr (.inr (.inr (.inr rf))))), (vw, .inr (11, [vw_files, .ref no, vw_namings, .int 0, .int 0, .ref sk, vw_changes, .null, .int 0, vw_over, .int 0, vw_heads, vw_nexts, vw_sharing])), (no, .inl (cI, 200, .inl f0)), (rr, .inr (7, [rr_members, rr_digest, rr_size, .int ver, rr_digestVersion])), (sk, .inr (9, [sk_bytes, sk_from, sk_firstDependency, sk_firstChange, sk_dependencies, sk_hashes, sk_byHash, sk_leansOn, sk_leantBy, sk_changes, sk_lines, .int 0]))] s.heap.size) [] := ⟨fun i j q r h => by simp at h, fun k q h => by simp at h⟩
    obtain ⟨hP, hD⟩ := va_join (wr := [(o, .inl (cL, 1, .inr (.inl ov)))]) (w1 := []) hP hD [0, 1, 2, 3, 4, 5] [6] rfl rfl (by decide) (by decide) hk1 hFc hP1 hD1
    generalize H1 = H at hP hS ht ⊢
    have hP : va_P (dC, dI) classes [(o, .inl (cL, 1, .inr (.inl ov)))] H := hP
    have hD : va_D A [(o, .inl (cL, 1, .inr (.inl ov)))] := hD
    rcases hw with ⟨-, rfl⟩ | ⟨-, rfl⟩
    · skip
      refine xc_catch (tgt := 13) hown hrows ht hvm hex ⟨⟨by decide, by decide⟩, by decide, "java/util/NoSuchElementException", hts _ gw_695, Or.inl ⟨va_Nw.use rfl (hN _ gn_706), rfl⟩⟩ ?_
      refine lv_astore (lv' := [(4, .ref x9), (0, .ref h), (1, .int p0), (2, .int p1), (3, .ref o)]) hx hb d_Lw_call_13 hl (by decide) rfl (fun ls hl => ?_)
      refine lv_iconst (v := 1) hx hb d_Lw_call_15 (by decide) ?_
      refine W.widen (k := 3) (n := 18) (Nat.le_of_ble_eq_true rfl) (Nat.le_of_ble_eq_true rfl) ?_
      exact xc_ret (W.iret (v := 1) hx hb hr (fun t ht hW => ⟨Or.inl ⟨_, ov, rfl, rfl, (by rw [ht]; exact hP), va_K.moved hW.alike hK, hD⟩, hS.F ht⟩) hS.2.2 d_Lw_call_16)
    · skip
      refine xc_catch (tgt := 13) hown hrows ht hvm hex ⟨⟨by decide, by decide⟩, by decide, "java/util/NoSuchElementException", hts _ gw_695, Or.inl ⟨va_Nw.use rfl (hN _ gn_706), rfl⟩⟩ ?_
      refine lv_astore (lv' := [(4, .ref x9), (0, .ref h), (1, .int p0), (2, .int p1), (3, .ref o)]) hx hb d_Lw_call_13 hl (by decide) rfl (fun ls hl => ?_)
      refine lv_iconst (v := 1) hx hb d_Lw_call_15 (by decide) ?_
      refine W.widen (k := 3) (n := 18) (Nat.le_of_ble_eq_true rfl) (Nat.le_of_ble_eq_true rfl) ?_
      exact xc_ret (W.iret (v := 1) hx hb hr (fun t ht hW => ⟨Or.inl ⟨_, ov, rfl, rfl, (by rw [ht]; exact hP), va_K.moved hW.alike hK, hD⟩, hS.F ht⟩) hS.2.2 d_Lw_call_16)
set_option maxHeartbeats 4000000 in
set_option maxRecDepth 100000 in
/-- the law's record -/
theorem m_L_record (l : Launch) (dC : Nat → ClassId) (dI : Nat → Nat → Nat) (cI cB cL cZ cR : ClassId) (hlt : xl_T l) (h rp vw tx no rr sk o : Nat) (ps_tape ps_sha ps_stock ps_intake ps_maker ps_recording ps_tapeLength ps_lastFault vw_files vw_namings vw_changes vw_over vw_heads vw_nexts vw_sharing rr_members rr_digest rr_size rr_digestVersion sk_bytes sk_from sk_firstDependency sk_firstChange sk_dependencies sk_hashes sk_byHash sk_leansOn sk_leantBy sk_changes sk_lines : Value) (ver : Int32) (f0 : Nat → Int32) (ov : Nat → Int64) (g : Nat → Nat) (rf : Nat → Option Nat) (p0 p1 : Int32) (sz : Nat) (hrf : ∀ k, k < 8 → rf k = some (g k)) (hrr_rr : ∀ n, n < 8 → p0 = nI n → g n = rr) : xc_Met l y_Lw_record ws_Lw_record ({ frames := 16, cells := 3, slots := 18, locals := 500 }) (xw_Pl dC dI [(cI, .int), (cB, .byte), (cL, .long), (cZ, .boolean), (cR, .object "PatchStore$Repository")] [.ref h, .int p0, .int p1, .ref o] [(h, .inr (0, [ps_tape, .ref rp, ps_sha, ps_stock, ps_intake, .ref vw, .ref tx, ps_maker, ps_recording, ps_tapeLength, ps_lastFault])), (rp, .inl (cR, 8, .inr (.inr (.inr (.inr rf))))), (vw, .inr (11, [vw_files, .ref no, vw_namings, .int 0, .int 0, .ref sk, vw_changes, .null, .int 0, vw_over, .int 0, vw_heads, vw_nexts, vw_sharing])), (no, .inl (cI, 200, .inl f0)), (rr, .inr (7, [rr_members, rr_digest, rr_size, .int ver, rr_digestVersion])), (sk, .inr (9, [sk_bytes, sk_from, sk_firstDependency, sk_firstChange, sk_dependencies, sk_hashes, sk_byHash, sk_leansOn, sk_leantBy, sk_changes, sk_lines, .int 0])), (o, .inl (cL, 1, .inr (.inl ov)))] sz) (xc_Q (S := Nat → Int64) (fun v (_ : Nat → Int64) => v = some (.int 1)) (fun _ _ => False) (fun u t => xw_B dC dI [(cI, .int), (cB, .byte), (cL, .long), (cZ, .boolean), (cR, .object "PatchStore$Repository")] (va_A [(h, .inr (0, [ps_tape, .ref rp, ps_sha, ps_stock, ps_intake, .ref vw, .ref tx, ps_maker, ps_recording, ps_tapeLength, ps_lastFault])), (rp, .inl (cR, 8, .inr (.inr (.inr (.inr rf))))), (vw, .inr (11, [vw_files, .ref no, vw_namings, .int 0, .int 0, .ref sk, vw_changes, .null, .int 0, vw_over, .int 0, vw_heads, vw_nexts, vw_sharing])), (no, .inl (cI, 200, .inl f0)), (rr, .inr (7, [rr_members, rr_digest, rr_size, .int ver, rr_digestVersion])), (sk, .inr (9, [sk_bytes, sk_from, sk_firstDependency, sk_firstChange, sk_dependencies, sk_hashes, sk_byHash, sk_leansOn, sk_leantBy, sk_changes, sk_lines, .int 0])), (o, .inl (cL, 1, .inr (.inl ov)))] sz) [(o, .inl (cL, 1, .inr (.inl u)))] t) (va_A [(h, .inr (0, [ps_tape, .ref rp, ps_sha, ps_stock, ps_intake, .ref vw, .ref tx, ps_maker, ps_recording, ps_tapeLength, ps_lastFault])), (rp, .inl (cR, 8, .inr (.inr (.inr (.inr rf))))), (vw, .inr (11, [vw_files, .ref no, vw_namings, .int 0, .int 0, .ref sk, vw_changes, .null, .int 0, vw_over, .int 0, vw_heads, vw_nexts, vw_sharing])), (no, .inl (cI, 200, .inl f0)), (rr, .inr (7, [rr_members, rr_digest, rr_size, .int ver, rr_digestVersion])), (sk, .inr (9, [sk_bytes, sk_from, sk_firstDependency, sk_firstChange, sk_dependencies, sk_hashes, sk_byHash, sk_leansOn, sk_leantBy, sk_changes, sk_lines, .int 0])), (o, .inl (cL, 1, .inr (.inl ov)))] sz)) 3 18 (va_A [(h, .inr (0, [ps_tape, .ref rp, ps_sha, ps_stock, ps_intake, .ref vw, .ref tx, ps_maker, ps_recording, ps_tapeLength, ps_lastFault])), (rp, .inl (cR, 8, .inr (.inr (.inr (.inr rf))))), (vw, .inr (11, [vw_files, .ref no, vw_namings, .int 0, .int 0, .ref sk, vw_changes, .null, .int 0, vw_over, .int 0, vw_heads, vw_nexts, vw_sharing])), (no, .inl (cI, 200, .inl f0)), (rr, .inr (7, [rr_members, rr_digest, rr_size, .int ver, rr_digestVersion])), (sk, .inr (9, [sk_bytes, sk_from, sk_firstDependency, sk_firstChange, sk_dependencies, sk_hashes, sk_byHash, sk_leansOn, sk_leantBy, sk_changes, sk_lines, .int 0])), (o, .inl (cL, 1, .inr (.inl ov)))] sz) := by
  refine xc_ofWH (cc := method_7_code) (maxL := 5) (ret := (Option.some Jvm.ClassFile.FieldType.int)) (hh := [((0 : Nat), (10 : Nat), (13 : Nat), (25 : Nat)), ((0 : Nat), (10 : Nat), (17 : Nat), (19 : Nat)), ((0 : Nat), (10 : Nat), (21 : Nat), (33 : Nat)), ((0 : Nat), (10 : Nat), (25 : Nat), (13 : Nat))]) (by decide) rfl ?_
  intro p e s m args below meth c s₁ B hml hrows hv
  obtain ⟨rfl, hsz, hP, hK, hD0, hN, hTh, hNc⟩ := hv
  have hx := B.exec
  have hb := B.bytes
  have hr := B.returns
  have hts0 := atoms_spec (ws := ws_Lw_record) B.pre
  have hts : ∀ w ∈ xg_1, w.before _ s = true := fun w h => hts0 w (List.mem_cons_of_mem _ h)
  have hown : s.vm.findClass "PatchStoreLaw" = some m.cls := findClass_of_methodNamed B.named
  have hlocks := B.notSynchronized
  subst hsz
  have hD := hD0.self (sz := s.heap.size)
  generalize hAe : va_A [(h, .inr (0, [ps_tape, .ref rp, ps_sha, ps_stock, ps_intake, .ref vw, .ref tx, ps_maker, ps_recording, ps_tapeLength, ps_lastFault])), (rp, .inl (cR, 8, .inr (.inr (.inr (.inr rf))))), (vw, .inr (11, [vw_files, .ref no, vw_namings, .int 0, .int 0, .ref sk, vw_changes, .null, .int 0, vw_over, .int 0, vw_heads, vw_nexts, vw_sharing])), (no, .inl (cI, 200, .inl f0)), (rr, .inr (7, [rr_members, rr_digest, rr_size, .int ver, rr_digestVersion])), (sk, .inr (9, [sk_bytes, sk_from, sk_firstDependency, sk_firstChange, sk_dependencies, sk_hashes, sk_byHash, sk_leansOn, sk_leantBy, sk_changes, sk_lines, .int 0])), (o, .inl (cL, 1, .inr (.inl ov)))] s.heap.size = A at hD hTh ⊢
  have hA : ∀ q : Nat, s.heap.size ≤ q → A q := fun q h => by rw [← hAe]; exact Or.inr h
  have hS : va_S A s.heap s.heap [] := va_S.rf
  have hl := lv_entry ([.ref h, .int p0, .int p1, .ref o]) (n := 5) (Nat.le_of_ble_eq_true rfl)
  rw [lg_entry_eq]
  generalize (lg_sl ([.ref h, .int p0, .int p1, .ref o]) ++ List.replicate (5 - (lg_sl ([.ref h, .int p0, .int p1, .ref o])).length) Slot.unset).toArray = ls at hl ⊢
  have hl : lv_has ls 5 [(0, .ref h), (1, .int p0), (2, .int p1), (3, .ref o)] := hl
  refine lv_aload_n hx hb d_Lw_record_0 rfl (lv_at hl 3 rfl) ?_
  refine lv_iconst (v := 0) hx hb d_Lw_record_1 (by decide) ?_
  refine lv_aload_n hx hb d_Lw_record_2 rfl (lv_at hl 0 rfl) ?_
  refine lv_iload_n hx hb d_Lw_record_3 rfl (lv_at hl 1 rfl) ?_
  refine lv_iload_n hx hb d_Lw_record_4 rfl (lv_at hl 2 rfl) ?_
  have hPc := hP.sub (ws' := [(h, .inr (0, [ps_tape, .ref rp, ps_sha, ps_stock, ps_intake, .ref vw, .ref tx, ps_maker, ps_recording, ps_tapeLength, ps_lastFault])), (rp, .inl (cR, 8, .inr (.inr (.inr (.inr rf))))), (vw, .inr (11, [vw_files, .ref no, vw_namings, .int 0, .int 0, .ref sk, vw_changes, .null, .int 0, vw_over, .int 0, vw_heads, vw_nexts, vw_sharing])), (no, .inl (cI, 200, .inl f0)), (rr, .inr (7, [rr_members, rr_digest, rr_size, .int ver, rr_digestVersion])), (sk, .inr (9, [sk_bytes, sk_from, sk_firstDependency, sk_firstChange, sk_dependencies, sk_hashes, sk_byHash, sk_leansOn, sk_leantBy, sk_changes, sk_lines, .int 0]))]) [0, 1, 2, 3, 4, 5] rfl
  have hDc := hD.sub (ws' := [(h, .inr (0, [ps_tape, .ref rp, ps_sha, ps_stock, ps_intake, .ref vw, .ref tx, ps_maker, ps_recording, ps_tapeLength, ps_lastFault])), (rp, .inl (cR, 8, .inr (.inr (.inr (.inr rf))))), (vw, .inr (11, [vw_files, .ref no, vw_namings, .int 0, .int 0, .ref sk, vw_changes, .null, .int 0, vw_over, .int 0, vw_heads, vw_nexts, vw_sharing])), (no, .inl (cI, 200, .inl f0)), (rr, .inr (7, [rr_members, rr_digest, rr_size, .int ver, rr_digestVersion])), (sk, .inr (9, [sk_bytes, sk_from, sk_firstDependency, sk_firstChange, sk_dependencies, sk_hashes, sk_byHash, sk_leansOn, sk_leantBy, sk_changes, sk_lines, .int 0]))]) [0, 1, 2, 3, 4, 5] (by decide) rfl
  have hFc := va_free (wc := [(h, .inr (0, [ps_tape, .ref rp, ps_sha, ps_stock, ps_intake, .ref vw, .ref tx, ps_maker, ps_recording, ps_tapeLength, ps_lastFault])), (rp, .inl (cR, 8, .inr (.inr (.inr (.inr rf))))), (vw, .inr (11, [vw_files, .ref no, vw_namings, .int 0, .int 0, .ref sk, vw_changes, .null, .int 0, vw_over, .int 0, vw_heads, vw_nexts, vw_sharing])), (no, .inl (cI, 200, .inl f0)), (rr, .inr (7, [rr_members, rr_digest, rr_size, .int ver, rr_digestVersion])), (sk, .inr (9, [sk_bytes, sk_from, sk_firstDependency, sk_firstChange, sk_dependencies, sk_hashes, sk_byHash, sk_leansOn, sk_leantBy, sk_changes, sk_lines, .int 0]))]) hD hS hA [0, 1, 2, 3, 4, 5] rfl
  refine xc_call (xc_runV (As := [.int p0, .int p1]) (rest := [.int 0, .ref o]) (C := "PatchStore") ⟨hx, hb, hml, hown, hts⟩ (m_PS_record0 l dC dI cI cB cL cZ cR hlt h rp vw tx no rr sk ps_tape ps_sha ps_stock ps_intake ps_maker ps_recording ps_tapeLength ps_lastFault vw_files vw_namings vw_changes vw_over vw_heads vw_nexts vw_sharing rr_members rr_digest rr_size rr_digestVersion sk_bytes sk_from sk_firstDependency sk_firstChange sk_dependencies sk_hashes sk_byHash sk_leansOn sk_leantBy sk_changes sk_lines ver f0 g rf p0 p1 s.heap.size hrf hrr_rr) (xc_bOf 2 hts (xg_in gw_1039) (xc_Is.code (hts _ gw_1039)) rfl rfl (hts _ gw_1) (by decide +kernel) ⟨Nat.le_of_ble_eq_true rfl, Nat.le_of_ble_eq_true rfl⟩) (hts _ gw_1036) (hts _ gw_1037) (hts _ gw_1038) ⟨xw_blindx, va_recv hK hPc (ci := 0) (q0 := 0) rfl rfl, fun U hU hW => ⟨rfl, by rw [hU], by rw [hU]; exact hPc, va_K.moved hW.alike hK, hDc.weaken (fun _ _ _ _ => trivial), xg_N.warm hW hN, by rw [hU]; exact ((hTh.kept (fun a h1 h2 => hS.2.1 a h1 h2)).narrow hFc).moved hW.alike⟩⟩ rfl rfl hl.1 rfl (lv_room (Nat.le_of_ble_eq_true rfl)) d_Lw_record_5 ⟨Nat.le_of_ble_eq_true rfl, Nat.le_of_ble_eq_true rfl⟩) hS (fun q _ h => hFc q h) hFc (fun v9 u t H1 locs ht hvm hw hB hz1 hk1 hS => ?_) (fun x9 C9 u t H1 locs ht hvm hw hex hB hz1 hk1 hS => ?_)
  · skip
    exact False.elim hw
  · skip
    have hP1 : va_P (dC, dI) classes [] H1 := fun k q h => by simp at h
    have hD1 : va_D (va_A [(h, .inr (0, [ps_tape, .ref rp, ps_sha, ps_stock, ps_intake, .ref vw, .ref tx, ps_maker, ps_recording, ps_tapeLength, ps_lastFault])), (rp, .inl (cR, 8, .inr (.inr (.inr (.inr rf))))), (vw, .inr (11, [vw_files, .ref no, vw_namings, .int 0, .int 0, .ref sk, vw_changes, .null, .int 0, vw_over, .int 0, vw_heads, vw_nexts, vw_sharing])), (no, .inl (cI, 200, .inl f0)), (rr, .inr (7, [rr_members, rr_digest, rr_size, .int ver, rr_digestVersion])), (sk, .inr (9, [sk_bytes, sk_from, sk_firstDependency, sk_firstChange, sk_dependencies, sk_hashes, sk_byHash, sk_leansOn, sk_leantBy, sk_changes, sk_lines, .int 0]))] s.heap.size) [] := ⟨fun i j q r h => by simp at h, fun k q h => by simp at h⟩
    obtain ⟨hP, hD⟩ := va_join (wr := [(o, .inl (cL, 1, .inr (.inl ov)))]) (w1 := []) hP hD [0, 1, 2, 3, 4, 5] [6] rfl rfl (by decide) (by decide) hk1 hFc hP1 hD1
    generalize H1 = H at hP hS ht ⊢
    have hP : va_P (dC, dI) classes [(o, .inl (cL, 1, .inr (.inl ov)))] H := hP
    have hD : va_D A [(o, .inl (cL, 1, .inr (.inl ov)))] := hD
    rcases hw with ⟨-, rfl⟩ | ⟨-, rfl⟩
    · skip
      refine xc_catch (tgt := 13) hown hrows ht hvm hex ⟨⟨by decide, by decide⟩, by decide, "java/util/NoSuchElementException", hts _ gw_695, Or.inl ⟨va_Nw.use rfl (hN _ gn_706), rfl⟩⟩ ?_
      refine lv_astore (lv' := [(4, .ref x9), (0, .ref h), (1, .int p0), (2, .int p1), (3, .ref o)]) hx hb d_Lw_record_13 hl (by decide) rfl (fun ls hl => ?_)
      refine lv_iconst (v := 1) hx hb d_Lw_record_15 (by decide) ?_
      refine W.widen (k := 3) (n := 18) (Nat.le_of_ble_eq_true rfl) (Nat.le_of_ble_eq_true rfl) ?_
      exact xc_ret (W.iret (v := 1) hx hb hr (fun t ht hW => ⟨Or.inl ⟨_, ov, rfl, rfl, (by rw [ht]; exact hP), va_K.moved hW.alike hK, hD⟩, hS.F ht⟩) hS.2.2 d_Lw_record_16)
    · skip
      refine xc_catch (tgt := 13) hown hrows ht hvm hex ⟨⟨by decide, by decide⟩, by decide, "java/util/NoSuchElementException", hts _ gw_695, Or.inl ⟨va_Nw.use rfl (hN _ gn_706), rfl⟩⟩ ?_
      refine lv_astore (lv' := [(4, .ref x9), (0, .ref h), (1, .int p0), (2, .int p1), (3, .ref o)]) hx hb d_Lw_record_13 hl (by decide) rfl (fun ls hl => ?_)
      refine lv_iconst (v := 1) hx hb d_Lw_record_15 (by decide) ?_
      refine W.widen (k := 3) (n := 18) (Nat.le_of_ble_eq_true rfl) (Nat.le_of_ble_eq_true rfl) ?_
      exact xc_ret (W.iret (v := 1) hx hb hr (fun t ht hW => ⟨Or.inl ⟨_, ov, rfl, rfl, (by rw [ht]; exact hP), va_K.moved hW.alike hK, hD⟩, hS.F ht⟩) hS.2.2 d_Lw_record_16)
set_option maxHeartbeats 4000000 in
set_option maxRecDepth 100000 in
/-- the law's file -/
theorem m_L_file (l : Launch) (dC : Nat → ClassId) (dI : Nat → Nat → Nat) (cI cB cL cZ cR : ClassId) (hlt : xl_T l) (h rp vw tx no rr sk o : Nat) (ps_tape ps_sha ps_stock ps_intake ps_maker ps_recording ps_tapeLength ps_lastFault vw_files vw_namings vw_changes vw_over vw_heads vw_nexts vw_sharing rr_members rr_digest rr_size rr_digestVersion sk_bytes sk_from sk_firstDependency sk_firstChange sk_dependencies sk_hashes sk_byHash sk_leansOn sk_leantBy sk_changes sk_lines : Value) (ver : Int32) (f0 : Nat → Int32) (ov : Nat → Int64) (g : Nat → Nat) (rf : Nat → Option Nat) (p0 p1 p2 : Int32) (sz : Nat) (hrf : ∀ k, k < 8 → rf k = some (g k)) (hrr_rr : ∀ n, n < 8 → p0 = nI n → g n = rr) : xc_Met l y_Lw_file ws_Lw_file ({ frames := 16, cells := 3, slots := 18, locals := 500 }) (xw_Pl dC dI [(cI, .int), (cB, .byte), (cL, .long), (cZ, .boolean), (cR, .object "PatchStore$Repository")] [.ref h, .int p0, .int p1, .int p2, .ref o] [(h, .inr (0, [ps_tape, .ref rp, ps_sha, ps_stock, ps_intake, .ref vw, .ref tx, ps_maker, ps_recording, ps_tapeLength, ps_lastFault])), (rp, .inl (cR, 8, .inr (.inr (.inr (.inr rf))))), (vw, .inr (11, [vw_files, .ref no, vw_namings, .int 0, .int 0, .ref sk, vw_changes, .null, .int 0, vw_over, .int 0, vw_heads, vw_nexts, vw_sharing])), (no, .inl (cI, 200, .inl f0)), (rr, .inr (7, [rr_members, rr_digest, rr_size, .int ver, rr_digestVersion])), (sk, .inr (9, [sk_bytes, sk_from, sk_firstDependency, sk_firstChange, sk_dependencies, sk_hashes, sk_byHash, sk_leansOn, sk_leantBy, sk_changes, sk_lines, .int 0])), (o, .inl (cL, 1, .inr (.inl ov)))] sz) (xc_Q (S := Nat → Int64) (fun v (_ : Nat → Int64) => v = some (.int 1)) (fun _ _ => False) (fun u t => xw_B dC dI [(cI, .int), (cB, .byte), (cL, .long), (cZ, .boolean), (cR, .object "PatchStore$Repository")] (va_A [(h, .inr (0, [ps_tape, .ref rp, ps_sha, ps_stock, ps_intake, .ref vw, .ref tx, ps_maker, ps_recording, ps_tapeLength, ps_lastFault])), (rp, .inl (cR, 8, .inr (.inr (.inr (.inr rf))))), (vw, .inr (11, [vw_files, .ref no, vw_namings, .int 0, .int 0, .ref sk, vw_changes, .null, .int 0, vw_over, .int 0, vw_heads, vw_nexts, vw_sharing])), (no, .inl (cI, 200, .inl f0)), (rr, .inr (7, [rr_members, rr_digest, rr_size, .int ver, rr_digestVersion])), (sk, .inr (9, [sk_bytes, sk_from, sk_firstDependency, sk_firstChange, sk_dependencies, sk_hashes, sk_byHash, sk_leansOn, sk_leantBy, sk_changes, sk_lines, .int 0])), (o, .inl (cL, 1, .inr (.inl ov)))] sz) [(o, .inl (cL, 1, .inr (.inl u)))] t) (va_A [(h, .inr (0, [ps_tape, .ref rp, ps_sha, ps_stock, ps_intake, .ref vw, .ref tx, ps_maker, ps_recording, ps_tapeLength, ps_lastFault])), (rp, .inl (cR, 8, .inr (.inr (.inr (.inr rf))))), (vw, .inr (11, [vw_files, .ref no, vw_namings, .int 0, .int 0, .ref sk, vw_changes, .null, .int 0, vw_over, .int 0, vw_heads, vw_nexts, vw_sharing])), (no, .inl (cI, 200, .inl f0)), (rr, .inr (7, [rr_members, rr_digest, rr_size, .int ver, rr_digestVersion])), (sk, .inr (9, [sk_bytes, sk_from, sk_firstDependency, sk_firstChange, sk_dependencies, sk_hashes, sk_byHash, sk_leansOn, sk_leantBy, sk_changes, sk_lines, .int 0])), (o, .inl (cL, 1, .inr (.inl ov)))] sz)) 3 18 (va_A [(h, .inr (0, [ps_tape, .ref rp, ps_sha, ps_stock, ps_intake, .ref vw, .ref tx, ps_maker, ps_recording, ps_tapeLength, ps_lastFault])), (rp, .inl (cR, 8, .inr (.inr (.inr (.inr rf))))), (vw, .inr (11, [vw_files, .ref no, vw_namings, .int 0, .int 0, .ref sk, vw_changes, .null, .int 0, vw_over, .int 0, vw_heads, vw_nexts, vw_sharing])), (no, .inl (cI, 200, .inl f0)), (rr, .inr (7, [rr_members, rr_digest, rr_size, .int ver, rr_digestVersion])), (sk, .inr (9, [sk_bytes, sk_from, sk_firstDependency, sk_firstChange, sk_dependencies, sk_hashes, sk_byHash, sk_leansOn, sk_leantBy, sk_changes, sk_lines, .int 0])), (o, .inl (cL, 1, .inr (.inl ov)))] sz) := by
  refine xc_ofWH (cc := method_16_code) (maxL := 6) (ret := (Option.some Jvm.ClassFile.FieldType.int)) (hh := [((0 : Nat), (12 : Nat), (15 : Nat), (25 : Nat)), ((0 : Nat), (12 : Nat), (19 : Nat), (19 : Nat))]) (by decide) rfl ?_
  intro p e s m args below meth c s₁ B hml hrows hv
  obtain ⟨rfl, hsz, hP, hK, hD0, hN, hTh, hNc⟩ := hv
  have hx := B.exec
  have hb := B.bytes
  have hr := B.returns
  have hts0 := atoms_spec (ws := ws_Lw_file) B.pre
  have hts : ∀ w ∈ xg_1, w.before _ s = true := fun w h => hts0 w (List.mem_cons_of_mem _ h)
  have hown : s.vm.findClass "PatchStoreLaw" = some m.cls := findClass_of_methodNamed B.named
  have hlocks := B.notSynchronized
  subst hsz
  have hD := hD0.self (sz := s.heap.size)
  generalize hAe : va_A [(h, .inr (0, [ps_tape, .ref rp, ps_sha, ps_stock, ps_intake, .ref vw, .ref tx, ps_maker, ps_recording, ps_tapeLength, ps_lastFault])), (rp, .inl (cR, 8, .inr (.inr (.inr (.inr rf))))), (vw, .inr (11, [vw_files, .ref no, vw_namings, .int 0, .int 0, .ref sk, vw_changes, .null, .int 0, vw_over, .int 0, vw_heads, vw_nexts, vw_sharing])), (no, .inl (cI, 200, .inl f0)), (rr, .inr (7, [rr_members, rr_digest, rr_size, .int ver, rr_digestVersion])), (sk, .inr (9, [sk_bytes, sk_from, sk_firstDependency, sk_firstChange, sk_dependencies, sk_hashes, sk_byHash, sk_leansOn, sk_leantBy, sk_changes, sk_lines, .int 0])), (o, .inl (cL, 1, .inr (.inl ov)))] s.heap.size = A at hD hTh ⊢
  have hA : ∀ q : Nat, s.heap.size ≤ q → A q := fun q h => by rw [← hAe]; exact Or.inr h
  have hS : va_S A s.heap s.heap [] := va_S.rf
  have hl := lv_entry ([.ref h, .int p0, .int p1, .int p2, .ref o]) (n := 6) (Nat.le_of_ble_eq_true rfl)
  rw [lg_entry_eq]
  generalize (lg_sl ([.ref h, .int p0, .int p1, .int p2, .ref o]) ++ List.replicate (6 - (lg_sl ([.ref h, .int p0, .int p1, .int p2, .ref o])).length) Slot.unset).toArray = ls at hl ⊢
  have hl : lv_has ls 6 [(0, .ref h), (1, .int p0), (2, .int p1), (3, .int p2), (4, .ref o)] := hl
  refine lv_aload hx hb d_Lw_file_0 (lv_at hl 4 rfl) ?_
  refine lv_iconst (v := 0) hx hb d_Lw_file_2 (by decide) ?_
  refine lv_aload_n hx hb d_Lw_file_3 rfl (lv_at hl 0 rfl) ?_
  refine lv_iload_n hx hb d_Lw_file_4 rfl (lv_at hl 1 rfl) ?_
  refine lv_iload_n hx hb d_Lw_file_5 rfl (lv_at hl 2 rfl) ?_
  refine lv_iload_n hx hb d_Lw_file_6 rfl (lv_at hl 3 rfl) ?_
  have hPc := hP.sub (ws' := [(h, .inr (0, [ps_tape, .ref rp, ps_sha, ps_stock, ps_intake, .ref vw, .ref tx, ps_maker, ps_recording, ps_tapeLength, ps_lastFault])), (rp, .inl (cR, 8, .inr (.inr (.inr (.inr rf))))), (vw, .inr (11, [vw_files, .ref no, vw_namings, .int 0, .int 0, .ref sk, vw_changes, .null, .int 0, vw_over, .int 0, vw_heads, vw_nexts, vw_sharing])), (no, .inl (cI, 200, .inl f0)), (rr, .inr (7, [rr_members, rr_digest, rr_size, .int ver, rr_digestVersion])), (sk, .inr (9, [sk_bytes, sk_from, sk_firstDependency, sk_firstChange, sk_dependencies, sk_hashes, sk_byHash, sk_leansOn, sk_leantBy, sk_changes, sk_lines, .int 0]))]) [0, 1, 2, 3, 4, 5] rfl
  have hDc := hD.sub (ws' := [(h, .inr (0, [ps_tape, .ref rp, ps_sha, ps_stock, ps_intake, .ref vw, .ref tx, ps_maker, ps_recording, ps_tapeLength, ps_lastFault])), (rp, .inl (cR, 8, .inr (.inr (.inr (.inr rf))))), (vw, .inr (11, [vw_files, .ref no, vw_namings, .int 0, .int 0, .ref sk, vw_changes, .null, .int 0, vw_over, .int 0, vw_heads, vw_nexts, vw_sharing])), (no, .inl (cI, 200, .inl f0)), (rr, .inr (7, [rr_members, rr_digest, rr_size, .int ver, rr_digestVersion])), (sk, .inr (9, [sk_bytes, sk_from, sk_firstDependency, sk_firstChange, sk_dependencies, sk_hashes, sk_byHash, sk_leansOn, sk_leantBy, sk_changes, sk_lines, .int 0]))]) [0, 1, 2, 3, 4, 5] (by decide) rfl
  have hFc := va_free (wc := [(h, .inr (0, [ps_tape, .ref rp, ps_sha, ps_stock, ps_intake, .ref vw, .ref tx, ps_maker, ps_recording, ps_tapeLength, ps_lastFault])), (rp, .inl (cR, 8, .inr (.inr (.inr (.inr rf))))), (vw, .inr (11, [vw_files, .ref no, vw_namings, .int 0, .int 0, .ref sk, vw_changes, .null, .int 0, vw_over, .int 0, vw_heads, vw_nexts, vw_sharing])), (no, .inl (cI, 200, .inl f0)), (rr, .inr (7, [rr_members, rr_digest, rr_size, .int ver, rr_digestVersion])), (sk, .inr (9, [sk_bytes, sk_from, sk_firstDependency, sk_firstChange, sk_dependencies, sk_hashes, sk_byHash, sk_leansOn, sk_leantBy, sk_changes, sk_lines, .int 0]))]) hD hS hA [0, 1, 2, 3, 4, 5] rfl
  refine xc_call (xc_runV (As := [.int p0, .int p1, .int p2]) (rest := [.int 0, .ref o]) (C := "PatchStore") ⟨hx, hb, hml, hown, hts⟩ (m_PS_file0 l dC dI cI cB cL cZ cR hlt h rp vw tx no rr sk ps_tape ps_sha ps_stock ps_intake ps_maker ps_recording ps_tapeLength ps_lastFault vw_files vw_namings vw_changes vw_over vw_heads vw_nexts vw_sharing rr_members rr_digest rr_size rr_digestVersion sk_bytes sk_from sk_firstDependency sk_firstChange sk_dependencies sk_hashes sk_byHash sk_leansOn sk_leantBy sk_changes sk_lines ver f0 g rf p0 p1 p2 s.heap.size hrf hrr_rr) (xc_bOf 3 hts (xg_in gw_1343) (xc_Is.code (hts _ gw_1343)) rfl rfl (hts _ gw_1) (by decide +kernel) ⟨Nat.le_of_ble_eq_true rfl, Nat.le_of_ble_eq_true rfl⟩) (hts _ gw_1340) (hts _ gw_1341) (hts _ gw_1342) ⟨xw_blindx, va_recv hK hPc (ci := 0) (q0 := 0) rfl rfl, fun U hU hW => ⟨rfl, by rw [hU], by rw [hU]; exact hPc, va_K.moved hW.alike hK, hDc.weaken (fun _ _ _ _ => trivial), xg_N.warm hW hN, by rw [hU]; exact ((hTh.kept (fun a h1 h2 => hS.2.1 a h1 h2)).narrow hFc).moved hW.alike⟩⟩ rfl rfl hl.1 rfl (lv_room (Nat.le_of_ble_eq_true rfl)) d_Lw_file_7 ⟨Nat.le_of_ble_eq_true rfl, Nat.le_of_ble_eq_true rfl⟩) hS (fun q _ h => hFc q h) hFc (fun v9 u t H1 locs ht hvm hw hB hz1 hk1 hS => ?_) (fun x9 C9 u t H1 locs ht hvm hw hex hB hz1 hk1 hS => ?_)
  · skip
    exact False.elim hw
  · skip
    have hP1 : va_P (dC, dI) classes [] H1 := fun k q h => by simp at h
    have hD1 : va_D (va_A [(h, .inr (0, [ps_tape, .ref rp, ps_sha, ps_stock, ps_intake, .ref vw, .ref tx, ps_maker, ps_recording, ps_tapeLength, ps_lastFault])), (rp, .inl (cR, 8, .inr (.inr (.inr (.inr rf))))), (vw, .inr (11, [vw_files, .ref no, vw_namings, .int 0, .int 0, .ref sk, vw_changes, .null, .int 0, vw_over, .int 0, vw_heads, vw_nexts, vw_sharing])), (no, .inl (cI, 200, .inl f0)), (rr, .inr (7, [rr_members, rr_digest, rr_size, .int ver, rr_digestVersion])), (sk, .inr (9, [sk_bytes, sk_from, sk_firstDependency, sk_firstChange, sk_dependencies, sk_hashes, sk_byHash, sk_leansOn, sk_leantBy, sk_changes, sk_lines, .int 0]))] s.heap.size) [] := ⟨fun i j q r h => by simp at h, fun k q h => by simp at h⟩
    obtain ⟨hP, hD⟩ := va_join (wr := [(o, .inl (cL, 1, .inr (.inl ov)))]) (w1 := []) hP hD [0, 1, 2, 3, 4, 5] [6] rfl rfl (by decide) (by decide) hk1 hFc hP1 hD1
    generalize H1 = H at hP hS ht ⊢
    have hP : va_P (dC, dI) classes [(o, .inl (cL, 1, .inr (.inl ov)))] H := hP
    have hD : va_D A [(o, .inl (cL, 1, .inr (.inl ov)))] := hD
    rcases hw with ⟨-, rfl⟩ | ⟨-, rfl⟩
    · skip
      refine xc_catch (tgt := 15) hown hrows ht hvm hex ⟨⟨by decide, by decide⟩, by decide, "java/util/NoSuchElementException", hts _ gw_695, Or.inl ⟨va_Nw.use rfl (hN _ gn_706), rfl⟩⟩ ?_
      refine lv_astore (lv' := [(5, .ref x9), (0, .ref h), (1, .int p0), (2, .int p1), (3, .int p2), (4, .ref o)]) hx hb d_Lw_file_15 hl (by decide) rfl (fun ls hl => ?_)
      refine lv_iconst (v := 1) hx hb d_Lw_file_17 (by decide) ?_
      refine W.widen (k := 3) (n := 18) (Nat.le_of_ble_eq_true rfl) (Nat.le_of_ble_eq_true rfl) ?_
      exact xc_ret (W.iret (v := 1) hx hb hr (fun t ht hW => ⟨Or.inl ⟨_, ov, rfl, rfl, (by rw [ht]; exact hP), va_K.moved hW.alike hK, hD⟩, hS.F ht⟩) hS.2.2 d_Lw_file_18)
    · skip
      refine xc_catch (tgt := 15) hown hrows ht hvm hex ⟨⟨by decide, by decide⟩, by decide, "java/util/NoSuchElementException", hts _ gw_695, Or.inl ⟨va_Nw.use rfl (hN _ gn_706), rfl⟩⟩ ?_
      refine lv_astore (lv' := [(5, .ref x9), (0, .ref h), (1, .int p0), (2, .int p1), (3, .int p2), (4, .ref o)]) hx hb d_Lw_file_15 hl (by decide) rfl (fun ls hl => ?_)
      refine lv_iconst (v := 1) hx hb d_Lw_file_17 (by decide) ?_
      refine W.widen (k := 3) (n := 18) (Nat.le_of_ble_eq_true rfl) (Nat.le_of_ble_eq_true rfl) ?_
      exact xc_ret (W.iret (v := 1) hx hb hr (fun t ht hW => ⟨Or.inl ⟨_, ov, rfl, rfl, (by rw [ht]; exact hP), va_K.moved hW.alike hK, hD⟩, hS.F ht⟩) hS.2.2 d_Lw_file_18)
set_option maxHeartbeats 4000000 in
set_option maxRecDepth 100000 in
/-- the law's name -/
theorem m_L_name (l : Launch) (dC : Nat → ClassId) (dI : Nat → Nat → Nat) (cI cB cL cZ cR : ClassId) (hlt : xl_T l) (h rp vw tx no rr sk o : Nat) (ps_tape ps_sha ps_stock ps_intake ps_maker ps_recording ps_tapeLength ps_lastFault vw_files vw_namings vw_changes vw_over vw_heads vw_nexts vw_sharing rr_members rr_digest rr_size rr_digestVersion sk_bytes sk_from sk_firstDependency sk_firstChange sk_dependencies sk_hashes sk_byHash sk_leansOn sk_leantBy sk_changes sk_lines : Value) (ver : Int32) (f0 : Nat → Int32) (ov : Nat → Int64) (g : Nat → Nat) (rf : Nat → Option Nat) (p0 p1 p2 p3 : Int32) (sz : Nat) (hrf : ∀ k, k < 8 → rf k = some (g k)) (hrr_rr : ∀ n, n < 8 → p0 = nI n → g n = rr) : xc_Met l y_Lw_name ws_Lw_name ({ frames := 16, cells := 3, slots := 18, locals := 500 }) (xw_Pl dC dI [(cI, .int), (cB, .byte), (cL, .long), (cZ, .boolean), (cR, .object "PatchStore$Repository")] [.ref h, .int p0, .int p1, .int p2, .int p3, .ref o] [(h, .inr (0, [ps_tape, .ref rp, ps_sha, ps_stock, ps_intake, .ref vw, .ref tx, ps_maker, ps_recording, ps_tapeLength, ps_lastFault])), (rp, .inl (cR, 8, .inr (.inr (.inr (.inr rf))))), (vw, .inr (11, [vw_files, .ref no, vw_namings, .int 0, .int 0, .ref sk, vw_changes, .null, .int 0, vw_over, .int 0, vw_heads, vw_nexts, vw_sharing])), (no, .inl (cI, 200, .inl f0)), (rr, .inr (7, [rr_members, rr_digest, rr_size, .int ver, rr_digestVersion])), (sk, .inr (9, [sk_bytes, sk_from, sk_firstDependency, sk_firstChange, sk_dependencies, sk_hashes, sk_byHash, sk_leansOn, sk_leantBy, sk_changes, sk_lines, .int 0])), (o, .inl (cL, 1, .inr (.inl ov)))] sz) (xc_Q (S := Nat → Int64) (fun v (_ : Nat → Int64) => v = some (.int 1)) (fun _ _ => False) (fun u t => xw_B dC dI [(cI, .int), (cB, .byte), (cL, .long), (cZ, .boolean), (cR, .object "PatchStore$Repository")] (va_A [(h, .inr (0, [ps_tape, .ref rp, ps_sha, ps_stock, ps_intake, .ref vw, .ref tx, ps_maker, ps_recording, ps_tapeLength, ps_lastFault])), (rp, .inl (cR, 8, .inr (.inr (.inr (.inr rf))))), (vw, .inr (11, [vw_files, .ref no, vw_namings, .int 0, .int 0, .ref sk, vw_changes, .null, .int 0, vw_over, .int 0, vw_heads, vw_nexts, vw_sharing])), (no, .inl (cI, 200, .inl f0)), (rr, .inr (7, [rr_members, rr_digest, rr_size, .int ver, rr_digestVersion])), (sk, .inr (9, [sk_bytes, sk_from, sk_firstDependency, sk_firstChange, sk_dependencies, sk_hashes, sk_byHash, sk_leansOn, sk_leantBy, sk_changes, sk_lines, .int 0])), (o, .inl (cL, 1, .inr (.inl ov)))] sz) [(o, .inl (cL, 1, .inr (.inl u)))] t) (va_A [(h, .inr (0, [ps_tape, .ref rp, ps_sha, ps_stock, ps_intake, .ref vw, .ref tx, ps_maker, ps_recording, ps_tapeLength, ps_lastFault])), (rp, .inl (cR, 8, .inr (.inr (.inr (.inr rf))))), (vw, .inr (11, [vw_files, .ref no, vw_namings, .int 0, .int 0, .ref sk, vw_changes, .null, .int 0, vw_over, .int 0, vw_heads, vw_nexts, vw_sharing])), (no, .inl (cI, 200, .inl f0)), (rr, .inr (7, [rr_members, rr_digest, rr_size, .int ver, rr_digestVersion])), (sk, .inr (9, [sk_bytes, sk_from, sk_firstDependency, sk_firstChange, sk_dependencies, sk_hashes, sk_byHash, sk_leansOn, sk_leantBy, sk_changes, sk_lines, .int 0])), (o, .inl (cL, 1, .inr (.inl ov)))] sz)) 3 18 (va_A [(h, .inr (0, [ps_tape, .ref rp, ps_sha, ps_stock, ps_intake, .ref vw, .ref tx, ps_maker, ps_recording, ps_tapeLength, ps_lastFault])), (rp, .inl (cR, 8, .inr (.inr (.inr (.inr rf))))), (vw, .inr (11, [vw_files, .ref no, vw_namings, .int 0, .int 0, .ref sk, vw_changes, .null, .int 0, vw_over, .int 0, vw_heads, vw_nexts, vw_sharing])), (no, .inl (cI, 200, .inl f0)), (rr, .inr (7, [rr_members, rr_digest, rr_size, .int ver, rr_digestVersion])), (sk, .inr (9, [sk_bytes, sk_from, sk_firstDependency, sk_firstChange, sk_dependencies, sk_hashes, sk_byHash, sk_leansOn, sk_leantBy, sk_changes, sk_lines, .int 0])), (o, .inl (cL, 1, .inr (.inl ov)))] sz) := by
  refine xc_ofWH (cc := method_17_code) (maxL := 7) (ret := (Option.some Jvm.ClassFile.FieldType.int)) (hh := [((0 : Nat), (14 : Nat), (17 : Nat), (25 : Nat)), ((0 : Nat), (14 : Nat), (21 : Nat), (54 : Nat))]) (by decide) rfl ?_
  intro p e s m args below meth c s₁ B hml hrows hv
  obtain ⟨rfl, hsz, hP, hK, hD0, hN, hTh, hNc⟩ := hv
  have hx := B.exec
  have hb := B.bytes
  have hr := B.returns
  have hts0 := atoms_spec (ws := ws_Lw_name) B.pre
  have hts : ∀ w ∈ xg_1, w.before _ s = true := fun w h => hts0 w (List.mem_cons_of_mem _ h)
  have hown : s.vm.findClass "PatchStoreLaw" = some m.cls := findClass_of_methodNamed B.named
  have hlocks := B.notSynchronized
  subst hsz
  have hD := hD0.self (sz := s.heap.size)
  generalize hAe : va_A [(h, .inr (0, [ps_tape, .ref rp, ps_sha, ps_stock, ps_intake, .ref vw, .ref tx, ps_maker, ps_recording, ps_tapeLength, ps_lastFault])), (rp, .inl (cR, 8, .inr (.inr (.inr (.inr rf))))), (vw, .inr (11, [vw_files, .ref no, vw_namings, .int 0, .int 0, .ref sk, vw_changes, .null, .int 0, vw_over, .int 0, vw_heads, vw_nexts, vw_sharing])), (no, .inl (cI, 200, .inl f0)), (rr, .inr (7, [rr_members, rr_digest, rr_size, .int ver, rr_digestVersion])), (sk, .inr (9, [sk_bytes, sk_from, sk_firstDependency, sk_firstChange, sk_dependencies, sk_hashes, sk_byHash, sk_leansOn, sk_leantBy, sk_changes, sk_lines, .int 0])), (o, .inl (cL, 1, .inr (.inl ov)))] s.heap.size = A at hD hTh ⊢
  have hA : ∀ q : Nat, s.heap.size ≤ q → A q := fun q h => by rw [← hAe]; exact Or.inr h
  have hS : va_S A s.heap s.heap [] := va_S.rf
  have hl := lv_entry ([.ref h, .int p0, .int p1, .int p2, .int p3, .ref o]) (n := 7) (Nat.le_of_ble_eq_true rfl)
  rw [lg_entry_eq]
  generalize (lg_sl ([.ref h, .int p0, .int p1, .int p2, .int p3, .ref o]) ++ List.replicate (7 - (lg_sl ([.ref h, .int p0, .int p1, .int p2, .int p3, .ref o])).length) Slot.unset).toArray = ls at hl ⊢
  have hl : lv_has ls 7 [(0, .ref h), (1, .int p0), (2, .int p1), (3, .int p2), (4, .int p3), (5, .ref o)] := hl
  refine lv_aload hx hb d_Lw_name_0 (lv_at hl 5 rfl) ?_
  refine lv_iconst (v := 0) hx hb d_Lw_name_2 (by decide) ?_
  refine lv_aload_n hx hb d_Lw_name_3 rfl (lv_at hl 0 rfl) ?_
  refine lv_iload_n hx hb d_Lw_name_4 rfl (lv_at hl 1 rfl) ?_
  refine lv_iload_n hx hb d_Lw_name_5 rfl (lv_at hl 2 rfl) ?_
  refine lv_iload_n hx hb d_Lw_name_6 rfl (lv_at hl 3 rfl) ?_
  refine lv_iload hx hb d_Lw_name_7 (lv_at hl 4 rfl) ?_
  have hPc := hP.sub (ws' := [(h, .inr (0, [ps_tape, .ref rp, ps_sha, ps_stock, ps_intake, .ref vw, .ref tx, ps_maker, ps_recording, ps_tapeLength, ps_lastFault])), (rp, .inl (cR, 8, .inr (.inr (.inr (.inr rf))))), (vw, .inr (11, [vw_files, .ref no, vw_namings, .int 0, .int 0, .ref sk, vw_changes, .null, .int 0, vw_over, .int 0, vw_heads, vw_nexts, vw_sharing])), (no, .inl (cI, 200, .inl f0)), (rr, .inr (7, [rr_members, rr_digest, rr_size, .int ver, rr_digestVersion])), (sk, .inr (9, [sk_bytes, sk_from, sk_firstDependency, sk_firstChange, sk_dependencies, sk_hashes, sk_byHash, sk_leansOn, sk_leantBy, sk_changes, sk_lines, .int 0]))]) [0, 1, 2, 3, 4, 5] rfl
  have hDc := hD.sub (ws' := [(h, .inr (0, [ps_tape, .ref rp, ps_sha, ps_stock, ps_intake, .ref vw, .ref tx, ps_maker, ps_recording, ps_tapeLength, ps_lastFault])), (rp, .inl (cR, 8, .inr (.inr (.inr (.inr rf))))), (vw, .inr (11, [vw_files, .ref no, vw_namings, .int 0, .int 0, .ref sk, vw_changes, .null, .int 0, vw_over, .int 0, vw_heads, vw_nexts, vw_sharing])), (no, .inl (cI, 200, .inl f0)), (rr, .inr (7, [rr_members, rr_digest, rr_size, .int ver, rr_digestVersion])), (sk, .inr (9, [sk_bytes, sk_from, sk_firstDependency, sk_firstChange, sk_dependencies, sk_hashes, sk_byHash, sk_leansOn, sk_leantBy, sk_changes, sk_lines, .int 0]))]) [0, 1, 2, 3, 4, 5] (by decide) rfl
  have hFc := va_free (wc := [(h, .inr (0, [ps_tape, .ref rp, ps_sha, ps_stock, ps_intake, .ref vw, .ref tx, ps_maker, ps_recording, ps_tapeLength, ps_lastFault])), (rp, .inl (cR, 8, .inr (.inr (.inr (.inr rf))))), (vw, .inr (11, [vw_files, .ref no, vw_namings, .int 0, .int 0, .ref sk, vw_changes, .null, .int 0, vw_over, .int 0, vw_heads, vw_nexts, vw_sharing])), (no, .inl (cI, 200, .inl f0)), (rr, .inr (7, [rr_members, rr_digest, rr_size, .int ver, rr_digestVersion])), (sk, .inr (9, [sk_bytes, sk_from, sk_firstDependency, sk_firstChange, sk_dependencies, sk_hashes, sk_byHash, sk_leansOn, sk_leantBy, sk_changes, sk_lines, .int 0]))]) hD hS hA [0, 1, 2, 3, 4, 5] rfl
  refine xc_call (xc_runV (As := [.int p0, .int p1, .int p2, .int p3]) (rest := [.int 0, .ref o]) (C := "PatchStore") ⟨hx, hb, hml, hown, hts⟩ (m_PS_name0 l dC dI cI cB cL cZ cR hlt h rp vw tx no rr sk ps_tape ps_sha ps_stock ps_intake ps_maker ps_recording ps_tapeLength ps_lastFault vw_files vw_namings vw_changes vw_over vw_heads vw_nexts vw_sharing rr_members rr_digest rr_size rr_digestVersion sk_bytes sk_from sk_firstDependency sk_firstChange sk_dependencies sk_hashes sk_byHash sk_leansOn sk_leantBy sk_changes sk_lines ver f0 g rf p0 p1 p2 p3 s.heap.size hrf hrr_rr) (xc_bOf 4 hts (xg_in gw_1350) (xc_Is.code (hts _ gw_1350)) rfl rfl (hts _ gw_1) (by decide +kernel) ⟨Nat.le_of_ble_eq_true rfl, Nat.le_of_ble_eq_true rfl⟩) (hts _ gw_1347) (hts _ gw_1348) (hts _ gw_1349) ⟨xw_blindx, va_recv hK hPc (ci := 0) (q0 := 0) rfl rfl, fun U hU hW => ⟨rfl, by rw [hU], by rw [hU]; exact hPc, va_K.moved hW.alike hK, hDc.weaken (fun _ _ _ _ => trivial), xg_N.warm hW hN, by rw [hU]; exact ((hTh.kept (fun a h1 h2 => hS.2.1 a h1 h2)).narrow hFc).moved hW.alike⟩⟩ rfl rfl hl.1 rfl (lv_room (Nat.le_of_ble_eq_true rfl)) d_Lw_name_9 ⟨Nat.le_of_ble_eq_true rfl, Nat.le_of_ble_eq_true rfl⟩) hS (fun q _ h => hFc q h) hFc (fun v9 u t H1 locs ht hvm hw hB hz1 hk1 hS => ?_) (fun x9 C9 u t H1 locs ht hvm hw hex hB hz1 hk1 hS => ?_)
  · skip
    exact False.elim hw
  · skip
    have hP1 : va_P (dC, dI) classes [] H1 := fun k q h => by simp at h
    have hD1 : va_D (va_A [(h, .inr (0, [ps_tape, .ref rp, ps_sha, ps_stock, ps_intake, .ref vw, .ref tx, ps_maker, ps_recording, ps_tapeLength, ps_lastFault])), (rp, .inl (cR, 8, .inr (.inr (.inr (.inr rf))))), (vw, .inr (11, [vw_files, .ref no, vw_namings, .int 0, .int 0, .ref sk, vw_changes, .null, .int 0, vw_over, .int 0, vw_heads, vw_nexts, vw_sharing])), (no, .inl (cI, 200, .inl f0)), (rr, .inr (7, [rr_members, rr_digest, rr_size, .int ver, rr_digestVersion])), (sk, .inr (9, [sk_bytes, sk_from, sk_firstDependency, sk_firstChange, sk_dependencies, sk_hashes, sk_byHash, sk_leansOn, sk_leantBy, sk_changes, sk_lines, .int 0]))] s.heap.size) [] := ⟨fun i j q r h => by simp at h, fun k q h => by simp at h⟩
    obtain ⟨hP, hD⟩ := va_join (wr := [(o, .inl (cL, 1, .inr (.inl ov)))]) (w1 := []) hP hD [0, 1, 2, 3, 4, 5] [6] rfl rfl (by decide) (by decide) hk1 hFc hP1 hD1
    generalize H1 = H at hP hS ht ⊢
    have hP : va_P (dC, dI) classes [(o, .inl (cL, 1, .inr (.inl ov)))] H := hP
    have hD : va_D A [(o, .inl (cL, 1, .inr (.inl ov)))] := hD
    rcases hw with ⟨-, rfl⟩ | ⟨-, rfl⟩
    · skip
      refine xc_catch (tgt := 17) hown hrows ht hvm hex ⟨⟨by decide, by decide⟩, by decide, "java/util/NoSuchElementException", hts _ gw_695, Or.inl ⟨va_Nw.use rfl (hN _ gn_706), rfl⟩⟩ ?_
      refine lv_astore (lv' := [(6, .ref x9), (0, .ref h), (1, .int p0), (2, .int p1), (3, .int p2), (4, .int p3), (5, .ref o)]) hx hb d_Lw_name_17 hl (by decide) rfl (fun ls hl => ?_)
      refine lv_iconst (v := 1) hx hb d_Lw_name_19 (by decide) ?_
      refine W.widen (k := 3) (n := 18) (Nat.le_of_ble_eq_true rfl) (Nat.le_of_ble_eq_true rfl) ?_
      exact xc_ret (W.iret (v := 1) hx hb hr (fun t ht hW => ⟨Or.inl ⟨_, ov, rfl, rfl, (by rw [ht]; exact hP), va_K.moved hW.alike hK, hD⟩, hS.F ht⟩) hS.2.2 d_Lw_name_20)
    · skip
      refine xc_catch (tgt := 17) hown hrows ht hvm hex ⟨⟨by decide, by decide⟩, by decide, "java/util/NoSuchElementException", hts _ gw_695, Or.inl ⟨va_Nw.use rfl (hN _ gn_706), rfl⟩⟩ ?_
      refine lv_astore (lv' := [(6, .ref x9), (0, .ref h), (1, .int p0), (2, .int p1), (3, .int p2), (4, .int p3), (5, .ref o)]) hx hb d_Lw_name_17 hl (by decide) rfl (fun ls hl => ?_)
      refine lv_iconst (v := 1) hx hb d_Lw_name_19 (by decide) ?_
      refine W.widen (k := 3) (n := 18) (Nat.le_of_ble_eq_true rfl) (Nat.le_of_ble_eq_true rfl) ?_
      exact xc_ret (W.iret (v := 1) hx hb hr (fun t ht hW => ⟨Or.inl ⟨_, ov, rfl, rfl, (by rw [ht]; exact hP), va_K.moved hW.alike hK, hD⟩, hS.F ht⟩) hS.2.2 d_Lw_name_20)
set_option maxHeartbeats 4000000 in
set_option maxRecDepth 100000 in
/-- the law's line -/
theorem m_L_line (l : Launch) (dC : Nat → ClassId) (dI : Nat → Nat → Nat) (cI cB cL cZ cR : ClassId) (hlt : xl_T l) (h rp vw tx no rr sk o : Nat) (ps_tape ps_sha ps_stock ps_intake ps_maker ps_recording ps_tapeLength ps_lastFault vw_files vw_namings vw_changes vw_over vw_heads vw_nexts vw_sharing rr_members rr_digest rr_size rr_digestVersion sk_bytes sk_from sk_firstDependency sk_firstChange sk_dependencies sk_hashes sk_byHash sk_leansOn sk_leantBy sk_changes sk_lines : Value) (ver : Int32) (f0 : Nat → Int32) (ov : Nat → Int64) (g : Nat → Nat) (rf : Nat → Option Nat) (p0 p1 p2 p3 : Int32) (sz : Nat) (hrf : ∀ k, k < 8 → rf k = some (g k)) (hrr_rr : ∀ n, n < 8 → p0 = nI n → g n = rr) : xc_Met l y_Lw_line ws_Lw_line ({ frames := 16, cells := 3, slots := 18, locals := 500 }) (xw_Pl dC dI [(cI, .int), (cB, .byte), (cL, .long), (cZ, .boolean), (cR, .object "PatchStore$Repository")] [.ref h, .int p0, .int p1, .int p2, .int p3, .ref o] [(h, .inr (0, [ps_tape, .ref rp, ps_sha, ps_stock, ps_intake, .ref vw, .ref tx, ps_maker, ps_recording, ps_tapeLength, ps_lastFault])), (rp, .inl (cR, 8, .inr (.inr (.inr (.inr rf))))), (vw, .inr (11, [vw_files, .ref no, vw_namings, .int 0, .int 0, .ref sk, vw_changes, .null, .int 0, vw_over, .int 0, vw_heads, vw_nexts, vw_sharing])), (no, .inl (cI, 200, .inl f0)), (rr, .inr (7, [rr_members, rr_digest, rr_size, .int ver, rr_digestVersion])), (sk, .inr (9, [sk_bytes, sk_from, sk_firstDependency, sk_firstChange, sk_dependencies, sk_hashes, sk_byHash, sk_leansOn, sk_leantBy, sk_changes, sk_lines, .int 0])), (o, .inl (cL, 1, .inr (.inl ov)))] sz) (xc_Q (S := Nat → Int64) (fun v (_ : Nat → Int64) => v = some (.int 1)) (fun _ _ => False) (fun u t => xw_B dC dI [(cI, .int), (cB, .byte), (cL, .long), (cZ, .boolean), (cR, .object "PatchStore$Repository")] (va_A [(h, .inr (0, [ps_tape, .ref rp, ps_sha, ps_stock, ps_intake, .ref vw, .ref tx, ps_maker, ps_recording, ps_tapeLength, ps_lastFault])), (rp, .inl (cR, 8, .inr (.inr (.inr (.inr rf))))), (vw, .inr (11, [vw_files, .ref no, vw_namings, .int 0, .int 0, .ref sk, vw_changes, .null, .int 0, vw_over, .int 0, vw_heads, vw_nexts, vw_sharing])), (no, .inl (cI, 200, .inl f0)), (rr, .inr (7, [rr_members, rr_digest, rr_size, .int ver, rr_digestVersion])), (sk, .inr (9, [sk_bytes, sk_from, sk_firstDependency, sk_firstChange, sk_dependencies, sk_hashes, sk_byHash, sk_leansOn, sk_leantBy, sk_changes, sk_lines, .int 0])), (o, .inl (cL, 1, .inr (.inl ov)))] sz) [(o, .inl (cL, 1, .inr (.inl u)))] t) (va_A [(h, .inr (0, [ps_tape, .ref rp, ps_sha, ps_stock, ps_intake, .ref vw, .ref tx, ps_maker, ps_recording, ps_tapeLength, ps_lastFault])), (rp, .inl (cR, 8, .inr (.inr (.inr (.inr rf))))), (vw, .inr (11, [vw_files, .ref no, vw_namings, .int 0, .int 0, .ref sk, vw_changes, .null, .int 0, vw_over, .int 0, vw_heads, vw_nexts, vw_sharing])), (no, .inl (cI, 200, .inl f0)), (rr, .inr (7, [rr_members, rr_digest, rr_size, .int ver, rr_digestVersion])), (sk, .inr (9, [sk_bytes, sk_from, sk_firstDependency, sk_firstChange, sk_dependencies, sk_hashes, sk_byHash, sk_leansOn, sk_leantBy, sk_changes, sk_lines, .int 0])), (o, .inl (cL, 1, .inr (.inl ov)))] sz)) 3 18 (va_A [(h, .inr (0, [ps_tape, .ref rp, ps_sha, ps_stock, ps_intake, .ref vw, .ref tx, ps_maker, ps_recording, ps_tapeLength, ps_lastFault])), (rp, .inl (cR, 8, .inr (.inr (.inr (.inr rf))))), (vw, .inr (11, [vw_files, .ref no, vw_namings, .int 0, .int 0, .ref sk, vw_changes, .null, .int 0, vw_over, .int 0, vw_heads, vw_nexts, vw_sharing])), (no, .inl (cI, 200, .inl f0)), (rr, .inr (7, [rr_members, rr_digest, rr_size, .int ver, rr_digestVersion])), (sk, .inr (9, [sk_bytes, sk_from, sk_firstDependency, sk_firstChange, sk_dependencies, sk_hashes, sk_byHash, sk_leansOn, sk_leantBy, sk_changes, sk_lines, .int 0])), (o, .inl (cL, 1, .inr (.inl ov)))] sz) := by
  refine xc_ofWH (cc := method_18_code) (maxL := 7) (ret := (Option.some Jvm.ClassFile.FieldType.int)) (hh := [((0 : Nat), (14 : Nat), (17 : Nat), (25 : Nat)), ((0 : Nat), (14 : Nat), (21 : Nat), (54 : Nat))]) (by decide) rfl ?_
  intro p e s m args below meth c s₁ B hml hrows hv
  obtain ⟨rfl, hsz, hP, hK, hD0, hN, hTh, hNc⟩ := hv
  have hx := B.exec
  have hb := B.bytes
  have hr := B.returns
  have hts0 := atoms_spec (ws := ws_Lw_line) B.pre
  have hts : ∀ w ∈ xg_1, w.before _ s = true := fun w h => hts0 w (List.mem_cons_of_mem _ h)
  have hown : s.vm.findClass "PatchStoreLaw" = some m.cls := findClass_of_methodNamed B.named
  have hlocks := B.notSynchronized
  subst hsz
  have hD := hD0.self (sz := s.heap.size)
  generalize hAe : va_A [(h, .inr (0, [ps_tape, .ref rp, ps_sha, ps_stock, ps_intake, .ref vw, .ref tx, ps_maker, ps_recording, ps_tapeLength, ps_lastFault])), (rp, .inl (cR, 8, .inr (.inr (.inr (.inr rf))))), (vw, .inr (11, [vw_files, .ref no, vw_namings, .int 0, .int 0, .ref sk, vw_changes, .null, .int 0, vw_over, .int 0, vw_heads, vw_nexts, vw_sharing])), (no, .inl (cI, 200, .inl f0)), (rr, .inr (7, [rr_members, rr_digest, rr_size, .int ver, rr_digestVersion])), (sk, .inr (9, [sk_bytes, sk_from, sk_firstDependency, sk_firstChange, sk_dependencies, sk_hashes, sk_byHash, sk_leansOn, sk_leantBy, sk_changes, sk_lines, .int 0])), (o, .inl (cL, 1, .inr (.inl ov)))] s.heap.size = A at hD hTh ⊢
  have hA : ∀ q : Nat, s.heap.size ≤ q → A q := fun q h => by rw [← hAe]; exact Or.inr h
  have hS : va_S A s.heap s.heap [] := va_S.rf
  have hl := lv_entry ([.ref h, .int p0, .int p1, .int p2, .int p3, .ref o]) (n := 7) (Nat.le_of_ble_eq_true rfl)
  rw [lg_entry_eq]
  generalize (lg_sl ([.ref h, .int p0, .int p1, .int p2, .int p3, .ref o]) ++ List.replicate (7 - (lg_sl ([.ref h, .int p0, .int p1, .int p2, .int p3, .ref o])).length) Slot.unset).toArray = ls at hl ⊢
  have hl : lv_has ls 7 [(0, .ref h), (1, .int p0), (2, .int p1), (3, .int p2), (4, .int p3), (5, .ref o)] := hl
  refine lv_aload hx hb d_Lw_line_0 (lv_at hl 5 rfl) ?_
  refine lv_iconst (v := 0) hx hb d_Lw_line_2 (by decide) ?_
  refine lv_aload_n hx hb d_Lw_line_3 rfl (lv_at hl 0 rfl) ?_
  refine lv_iload_n hx hb d_Lw_line_4 rfl (lv_at hl 1 rfl) ?_
  refine lv_iload_n hx hb d_Lw_line_5 rfl (lv_at hl 2 rfl) ?_
  refine lv_iload_n hx hb d_Lw_line_6 rfl (lv_at hl 3 rfl) ?_
  refine lv_iload hx hb d_Lw_line_7 (lv_at hl 4 rfl) ?_
  have hPc := hP.sub (ws' := [(h, .inr (0, [ps_tape, .ref rp, ps_sha, ps_stock, ps_intake, .ref vw, .ref tx, ps_maker, ps_recording, ps_tapeLength, ps_lastFault])), (rp, .inl (cR, 8, .inr (.inr (.inr (.inr rf))))), (vw, .inr (11, [vw_files, .ref no, vw_namings, .int 0, .int 0, .ref sk, vw_changes, .null, .int 0, vw_over, .int 0, vw_heads, vw_nexts, vw_sharing])), (no, .inl (cI, 200, .inl f0)), (rr, .inr (7, [rr_members, rr_digest, rr_size, .int ver, rr_digestVersion])), (sk, .inr (9, [sk_bytes, sk_from, sk_firstDependency, sk_firstChange, sk_dependencies, sk_hashes, sk_byHash, sk_leansOn, sk_leantBy, sk_changes, sk_lines, .int 0]))]) [0, 1, 2, 3, 4, 5] rfl
  have hDc := hD.sub (ws' := [(h, .inr (0, [ps_tape, .ref rp, ps_sha, ps_stock, ps_intake, .ref vw, .ref tx, ps_maker, ps_recording, ps_tapeLength, ps_lastFault])), (rp, .inl (cR, 8, .inr (.inr (.inr (.inr rf))))), (vw, .inr (11, [vw_files, .ref no, vw_namings, .int 0, .int 0, .ref sk, vw_changes, .null, .int 0, vw_over, .int 0, vw_heads, vw_nexts, vw_sharing])), (no, .inl (cI, 200, .inl f0)), (rr, .inr (7, [rr_members, rr_digest, rr_size, .int ver, rr_digestVersion])), (sk, .inr (9, [sk_bytes, sk_from, sk_firstDependency, sk_firstChange, sk_dependencies, sk_hashes, sk_byHash, sk_leansOn, sk_leantBy, sk_changes, sk_lines, .int 0]))]) [0, 1, 2, 3, 4, 5] (by decide) rfl
  have hFc := va_free (wc := [(h, .inr (0, [ps_tape, .ref rp, ps_sha, ps_stock, ps_intake, .ref vw, .ref tx, ps_maker, ps_recording, ps_tapeLength, ps_lastFault])), (rp, .inl (cR, 8, .inr (.inr (.inr (.inr rf))))), (vw, .inr (11, [vw_files, .ref no, vw_namings, .int 0, .int 0, .ref sk, vw_changes, .null, .int 0, vw_over, .int 0, vw_heads, vw_nexts, vw_sharing])), (no, .inl (cI, 200, .inl f0)), (rr, .inr (7, [rr_members, rr_digest, rr_size, .int ver, rr_digestVersion])), (sk, .inr (9, [sk_bytes, sk_from, sk_firstDependency, sk_firstChange, sk_dependencies, sk_hashes, sk_byHash, sk_leansOn, sk_leantBy, sk_changes, sk_lines, .int 0]))]) hD hS hA [0, 1, 2, 3, 4, 5] rfl
  refine xc_call (xc_runV (As := [.int p0, .int p1, .int p2, .int p3]) (rest := [.int 0, .ref o]) (C := "PatchStore") ⟨hx, hb, hml, hown, hts⟩ (m_PS_line0 l dC dI cI cB cL cZ cR hlt h rp vw tx no rr sk ps_tape ps_sha ps_stock ps_intake ps_maker ps_recording ps_tapeLength ps_lastFault vw_files vw_namings vw_changes vw_over vw_heads vw_nexts vw_sharing rr_members rr_digest rr_size rr_digestVersion sk_bytes sk_from sk_firstDependency sk_firstChange sk_dependencies sk_hashes sk_byHash sk_leansOn sk_leantBy sk_changes sk_lines ver f0 g rf p0 p1 p2 p3 s.heap.size hrf hrr_rr) (xc_bOf 4 hts (xg_in gw_1362) (xc_Is.code (hts _ gw_1362)) rfl rfl (hts _ gw_1) (by decide +kernel) ⟨Nat.le_of_ble_eq_true rfl, Nat.le_of_ble_eq_true rfl⟩) (hts _ gw_1359) (hts _ gw_1360) (hts _ gw_1361) ⟨xw_blindx, va_recv hK hPc (ci := 0) (q0 := 0) rfl rfl, fun U hU hW => ⟨rfl, by rw [hU], by rw [hU]; exact hPc, va_K.moved hW.alike hK, hDc.weaken (fun _ _ _ _ => trivial), xg_N.warm hW hN, by rw [hU]; exact ((hTh.kept (fun a h1 h2 => hS.2.1 a h1 h2)).narrow hFc).moved hW.alike⟩⟩ rfl rfl hl.1 rfl (lv_room (Nat.le_of_ble_eq_true rfl)) d_Lw_line_9 ⟨Nat.le_of_ble_eq_true rfl, Nat.le_of_ble_eq_true rfl⟩) hS (fun q _ h => hFc q h) hFc (fun v9 u t H1 locs ht hvm hw hB hz1 hk1 hS => ?_) (fun x9 C9 u t H1 locs ht hvm hw hex hB hz1 hk1 hS => ?_)
  · skip
    exact False.elim hw
  · skip
    have hP1 : va_P (dC, dI) classes [] H1 := fun k q h => by simp at h
    have hD1 : va_D (va_A [(h, .inr (0, [ps_tape, .ref rp, ps_sha, ps_stock, ps_intake, .ref vw, .ref tx, ps_maker, ps_recording, ps_tapeLength, ps_lastFault])), (rp, .inl (cR, 8, .inr (.inr (.inr (.inr rf))))), (vw, .inr (11, [vw_files, .ref no, vw_namings, .int 0, .int 0, .ref sk, vw_changes, .null, .int 0, vw_over, .int 0, vw_heads, vw_nexts, vw_sharing])), (no, .inl (cI, 200, .inl f0)), (rr, .inr (7, [rr_members, rr_digest, rr_size, .int ver, rr_digestVersion])), (sk, .inr (9, [sk_bytes, sk_from, sk_firstDependency, sk_firstChange, sk_dependencies, sk_hashes, sk_byHash, sk_leansOn, sk_leantBy, sk_changes, sk_lines, .int 0]))] s.heap.size) [] := ⟨fun i j q r h => by simp at h, fun k q h => by simp at h⟩
    obtain ⟨hP, hD⟩ := va_join (wr := [(o, .inl (cL, 1, .inr (.inl ov)))]) (w1 := []) hP hD [0, 1, 2, 3, 4, 5] [6] rfl rfl (by decide) (by decide) hk1 hFc hP1 hD1
    generalize H1 = H at hP hS ht ⊢
    have hP : va_P (dC, dI) classes [(o, .inl (cL, 1, .inr (.inl ov)))] H := hP
    have hD : va_D A [(o, .inl (cL, 1, .inr (.inl ov)))] := hD
    rcases hw with ⟨-, rfl⟩ | ⟨-, rfl⟩
    · skip
      refine xc_catch (tgt := 17) hown hrows ht hvm hex ⟨⟨by decide, by decide⟩, by decide, "java/util/NoSuchElementException", hts _ gw_695, Or.inl ⟨va_Nw.use rfl (hN _ gn_706), rfl⟩⟩ ?_
      refine lv_astore (lv' := [(6, .ref x9), (0, .ref h), (1, .int p0), (2, .int p1), (3, .int p2), (4, .int p3), (5, .ref o)]) hx hb d_Lw_line_17 hl (by decide) rfl (fun ls hl => ?_)
      refine lv_iconst (v := 1) hx hb d_Lw_line_19 (by decide) ?_
      refine W.widen (k := 3) (n := 18) (Nat.le_of_ble_eq_true rfl) (Nat.le_of_ble_eq_true rfl) ?_
      exact xc_ret (W.iret (v := 1) hx hb hr (fun t ht hW => ⟨Or.inl ⟨_, ov, rfl, rfl, (by rw [ht]; exact hP), va_K.moved hW.alike hK, hD⟩, hS.F ht⟩) hS.2.2 d_Lw_line_20)
    · skip
      refine xc_catch (tgt := 17) hown hrows ht hvm hex ⟨⟨by decide, by decide⟩, by decide, "java/util/NoSuchElementException", hts _ gw_695, Or.inl ⟨va_Nw.use rfl (hN _ gn_706), rfl⟩⟩ ?_
      refine lv_astore (lv' := [(6, .ref x9), (0, .ref h), (1, .int p0), (2, .int p1), (3, .int p2), (4, .int p3), (5, .ref o)]) hx hb d_Lw_line_17 hl (by decide) rfl (fun ls hl => ?_)
      refine lv_iconst (v := 1) hx hb d_Lw_line_19 (by decide) ?_
      refine W.widen (k := 3) (n := 18) (Nat.le_of_ble_eq_true rfl) (Nat.le_of_ble_eq_true rfl) ?_
      exact xc_ret (W.iret (v := 1) hx hb hr (fun t ht hW => ⟨Or.inl ⟨_, ov, rfl, rfl, (by rw [ht]; exact hP), va_K.moved hW.alike hK, hD⟩, hS.F ht⟩) hS.2.2 d_Lw_line_20)
set_option maxHeartbeats 4000000 in
set_option maxRecDepth 100000 in
/-- the law's show -/
theorem m_L_show (l : Launch) (dC : Nat → ClassId) (dI : Nat → Nat → Nat) (cI cB cL cZ cR : ClassId) (hlt : xl_T l) (h sk o : Nat) (ps_tape ps_repositories ps_sha ps_intake ps_view ps_text ps_maker ps_recording ps_tapeLength ps_lastFault sk_bytes sk_from sk_firstDependency sk_firstChange sk_dependencies sk_hashes sk_byHash sk_leansOn sk_leantBy sk_changes sk_lines : Value) (ov : Nat → Int64) (p0 : Int32) (sz : Nat) : xc_Met l y_Lw_show ws_Lw_show ({ frames := 16, cells := 3, slots := 18, locals := 500 }) (xw_Pl dC dI [(cI, .int), (cB, .byte), (cL, .long), (cZ, .boolean), (cR, .object "PatchStore$Repository")] [.ref h, .int p0, .ref o] [(h, .inr (0, [ps_tape, ps_repositories, ps_sha, .ref sk, ps_intake, ps_view, ps_text, ps_maker, ps_recording, ps_tapeLength, ps_lastFault])), (sk, .inr (9, [sk_bytes, sk_from, sk_firstDependency, sk_firstChange, sk_dependencies, sk_hashes, sk_byHash, sk_leansOn, sk_leantBy, sk_changes, sk_lines, .int 0])), (o, .inl (cL, 1, .inr (.inl ov)))] sz) (xc_Q (S := Nat → Int64) (fun v (_ : Nat → Int64) => v = some (.int 1)) (fun _ _ => False) (fun u t => xw_B dC dI [(cI, .int), (cB, .byte), (cL, .long), (cZ, .boolean), (cR, .object "PatchStore$Repository")] (va_A [(h, .inr (0, [ps_tape, ps_repositories, ps_sha, .ref sk, ps_intake, ps_view, ps_text, ps_maker, ps_recording, ps_tapeLength, ps_lastFault])), (sk, .inr (9, [sk_bytes, sk_from, sk_firstDependency, sk_firstChange, sk_dependencies, sk_hashes, sk_byHash, sk_leansOn, sk_leantBy, sk_changes, sk_lines, .int 0])), (o, .inl (cL, 1, .inr (.inl ov)))] sz) [(o, .inl (cL, 1, .inr (.inl u)))] t) (va_A [(h, .inr (0, [ps_tape, ps_repositories, ps_sha, .ref sk, ps_intake, ps_view, ps_text, ps_maker, ps_recording, ps_tapeLength, ps_lastFault])), (sk, .inr (9, [sk_bytes, sk_from, sk_firstDependency, sk_firstChange, sk_dependencies, sk_hashes, sk_byHash, sk_leansOn, sk_leantBy, sk_changes, sk_lines, .int 0])), (o, .inl (cL, 1, .inr (.inl ov)))] sz)) 3 18 (va_A [(h, .inr (0, [ps_tape, ps_repositories, ps_sha, .ref sk, ps_intake, ps_view, ps_text, ps_maker, ps_recording, ps_tapeLength, ps_lastFault])), (sk, .inr (9, [sk_bytes, sk_from, sk_firstDependency, sk_firstChange, sk_dependencies, sk_hashes, sk_byHash, sk_leansOn, sk_leantBy, sk_changes, sk_lines, .int 0])), (o, .inl (cL, 1, .inr (.inl ov)))] sz) := by
  refine xc_ofWH (cc := method_9_code) (maxL := 4) (ret := (Option.some Jvm.ClassFile.FieldType.int)) (hh := [((0 : Nat), (9 : Nat), (12 : Nat), (25 : Nat)), ((0 : Nat), (9 : Nat), (15 : Nat), (33 : Nat))]) (by decide) rfl ?_
  intro p e s m args below meth c s₁ B hml hrows hv
  obtain ⟨rfl, hsz, hP, hK, hD0, hN, hTh, hNc⟩ := hv
  have hx := B.exec
  have hb := B.bytes
  have hr := B.returns
  have hts0 := atoms_spec (ws := ws_Lw_show) B.pre
  have hts : ∀ w ∈ xg_1, w.before _ s = true := fun w h => hts0 w (List.mem_cons_of_mem _ h)
  have hown : s.vm.findClass "PatchStoreLaw" = some m.cls := findClass_of_methodNamed B.named
  have hlocks := B.notSynchronized
  subst hsz
  have hD := hD0.self (sz := s.heap.size)
  generalize hAe : va_A [(h, .inr (0, [ps_tape, ps_repositories, ps_sha, .ref sk, ps_intake, ps_view, ps_text, ps_maker, ps_recording, ps_tapeLength, ps_lastFault])), (sk, .inr (9, [sk_bytes, sk_from, sk_firstDependency, sk_firstChange, sk_dependencies, sk_hashes, sk_byHash, sk_leansOn, sk_leantBy, sk_changes, sk_lines, .int 0])), (o, .inl (cL, 1, .inr (.inl ov)))] s.heap.size = A at hD hTh ⊢
  have hA : ∀ q : Nat, s.heap.size ≤ q → A q := fun q h => by rw [← hAe]; exact Or.inr h
  have hS : va_S A s.heap s.heap [] := va_S.rf
  have hl := lv_entry ([.ref h, .int p0, .ref o]) (n := 4) (Nat.le_of_ble_eq_true rfl)
  rw [lg_entry_eq]
  generalize (lg_sl ([.ref h, .int p0, .ref o]) ++ List.replicate (4 - (lg_sl ([.ref h, .int p0, .ref o])).length) Slot.unset).toArray = ls at hl ⊢
  have hl : lv_has ls 4 [(0, .ref h), (1, .int p0), (2, .ref o)] := hl
  refine lv_aload_n hx hb d_Lw_show_0 rfl (lv_at hl 2 rfl) ?_
  refine lv_iconst (v := 0) hx hb d_Lw_show_1 (by decide) ?_
  refine lv_aload_n hx hb d_Lw_show_2 rfl (lv_at hl 0 rfl) ?_
  refine lv_iload_n hx hb d_Lw_show_3 rfl (lv_at hl 1 rfl) ?_
  have hPc := hP.sub (ws' := [(h, .inr (0, [ps_tape, ps_repositories, ps_sha, .ref sk, ps_intake, ps_view, ps_text, ps_maker, ps_recording, ps_tapeLength, ps_lastFault])), (sk, .inr (9, [sk_bytes, sk_from, sk_firstDependency, sk_firstChange, sk_dependencies, sk_hashes, sk_byHash, sk_leansOn, sk_leantBy, sk_changes, sk_lines, .int 0]))]) [0, 1] rfl
  have hDc := hD.sub (ws' := [(h, .inr (0, [ps_tape, ps_repositories, ps_sha, .ref sk, ps_intake, ps_view, ps_text, ps_maker, ps_recording, ps_tapeLength, ps_lastFault])), (sk, .inr (9, [sk_bytes, sk_from, sk_firstDependency, sk_firstChange, sk_dependencies, sk_hashes, sk_byHash, sk_leansOn, sk_leantBy, sk_changes, sk_lines, .int 0]))]) [0, 1] (by decide) rfl
  have hFc := va_free (wc := [(h, .inr (0, [ps_tape, ps_repositories, ps_sha, .ref sk, ps_intake, ps_view, ps_text, ps_maker, ps_recording, ps_tapeLength, ps_lastFault])), (sk, .inr (9, [sk_bytes, sk_from, sk_firstDependency, sk_firstChange, sk_dependencies, sk_hashes, sk_byHash, sk_leansOn, sk_leantBy, sk_changes, sk_lines, .int 0]))]) hD hS hA [0, 1] rfl
  refine xc_call (xc_runV (As := [.int p0]) (rest := [.int 0, .ref o]) (C := "PatchStore") ⟨hx, hb, hml, hown, hts⟩ (m_PS_show0 l dC dI cI cB cL cZ cR hlt h sk ps_tape ps_repositories ps_sha ps_intake ps_view ps_text ps_maker ps_recording ps_tapeLength ps_lastFault sk_bytes sk_from sk_firstDependency sk_firstChange sk_dependencies sk_hashes sk_byHash sk_leansOn sk_leantBy sk_changes sk_lines p0 s.heap.size ) (xc_bOf 1 hts (xg_in gw_1217) (xc_Is.code (hts _ gw_1217)) rfl rfl (hts _ gw_1) (by decide +kernel) ⟨Nat.le_of_ble_eq_true rfl, Nat.le_of_ble_eq_true rfl⟩) (hts _ gw_1214) (hts _ gw_1215) (hts _ gw_1216) ⟨xw_blindx, va_recv hK hPc (ci := 0) (q0 := 0) rfl rfl, fun U hU hW => ⟨rfl, by rw [hU], by rw [hU]; exact hPc, va_K.moved hW.alike hK, hDc.weaken (fun _ _ _ _ => trivial), xg_N.warm hW hN, by rw [hU]; exact ((hTh.kept (fun a h1 h2 => hS.2.1 a h1 h2)).narrow hFc).moved hW.alike⟩⟩ rfl rfl hl.1 rfl (lv_room (Nat.le_of_ble_eq_true rfl)) d_Lw_show_4 ⟨Nat.le_of_ble_eq_true rfl, Nat.le_of_ble_eq_true rfl⟩) hS (fun q _ h => hFc q h) hFc (fun v9 u t H1 locs ht hvm hw hB hz1 hk1 hS => ?_) (fun x9 C9 u t H1 locs ht hvm hw hex hB hz1 hk1 hS => ?_)
  · skip
    exact False.elim hw
  · skip
    have hP1 : va_P (dC, dI) classes [] H1 := fun k q h => by simp at h
    have hD1 : va_D (va_A [(h, .inr (0, [ps_tape, ps_repositories, ps_sha, .ref sk, ps_intake, ps_view, ps_text, ps_maker, ps_recording, ps_tapeLength, ps_lastFault])), (sk, .inr (9, [sk_bytes, sk_from, sk_firstDependency, sk_firstChange, sk_dependencies, sk_hashes, sk_byHash, sk_leansOn, sk_leantBy, sk_changes, sk_lines, .int 0]))] s.heap.size) [] := ⟨fun i j q r h => by simp at h, fun k q h => by simp at h⟩
    obtain ⟨hP, hD⟩ := va_join (wr := [(o, .inl (cL, 1, .inr (.inl ov)))]) (w1 := []) hP hD [0, 1] [2] rfl rfl (by decide) (by decide) hk1 hFc hP1 hD1
    generalize H1 = H at hP hS ht ⊢
    have hP : va_P (dC, dI) classes [(o, .inl (cL, 1, .inr (.inl ov)))] H := hP
    have hD : va_D A [(o, .inl (cL, 1, .inr (.inl ov)))] := hD
    obtain rfl := hw
    skip
    refine xc_catch (tgt := 12) hown hrows ht hvm hex ⟨⟨by decide, by decide⟩, by decide, "java/util/NoSuchElementException", hts _ gw_695, Or.inl ⟨va_Nw.use rfl (hN _ gn_706), rfl⟩⟩ ?_
    refine lv_astore_n (lv' := [(3, .ref x9), (0, .ref h), (1, .int p0), (2, .ref o)]) hx hb d_Lw_show_12 rfl hl (by decide) rfl (fun ls hl => ?_)
    refine lv_iconst (v := 1) hx hb d_Lw_show_13 (by decide) ?_
    refine W.widen (k := 3) (n := 18) (Nat.le_of_ble_eq_true rfl) (Nat.le_of_ble_eq_true rfl) ?_
    exact xc_ret (W.iret (v := 1) hx hb hr (fun t ht hW => ⟨Or.inl ⟨_, ov, rfl, rfl, (by rw [ht]; exact hP), va_K.moved hW.alike hK, hD⟩, hS.F ht⟩) hS.2.2 d_Lw_show_14)
set_option maxHeartbeats 4000000 in
set_option maxRecDepth 100000 in
/-- the law's hash -/
theorem m_L_hash (l : Launch) (dC : Nat → ClassId) (dI : Nat → Nat → Nat) (cI cB cL cZ cR : ClassId) (hlt : xl_T l) (h sk o : Nat) (ps_tape ps_repositories ps_sha ps_intake ps_view ps_text ps_maker ps_recording ps_tapeLength ps_lastFault sk_bytes sk_from sk_firstDependency sk_firstChange sk_dependencies sk_hashes sk_byHash sk_leansOn sk_leantBy sk_changes sk_lines : Value) (ov : Nat → Int64) (p0 p1 : Int32) (sz : Nat) : xc_Met l y_Lw_hash ws_Lw_hash ({ frames := 16, cells := 3, slots := 18, locals := 500 }) (xw_Pl dC dI [(cI, .int), (cB, .byte), (cL, .long), (cZ, .boolean), (cR, .object "PatchStore$Repository")] [.ref h, .int p0, .int p1, .ref o] [(h, .inr (0, [ps_tape, ps_repositories, ps_sha, .ref sk, ps_intake, ps_view, ps_text, ps_maker, ps_recording, ps_tapeLength, ps_lastFault])), (sk, .inr (9, [sk_bytes, sk_from, sk_firstDependency, sk_firstChange, sk_dependencies, sk_hashes, sk_byHash, sk_leansOn, sk_leantBy, sk_changes, sk_lines, .int 0])), (o, .inl (cL, 1, .inr (.inl ov)))] sz) (xc_Q (S := Nat → Int64) (fun v (_ : Nat → Int64) => v = some (.int 1)) (fun _ _ => False) (fun u t => xw_B dC dI [(cI, .int), (cB, .byte), (cL, .long), (cZ, .boolean), (cR, .object "PatchStore$Repository")] (va_A [(h, .inr (0, [ps_tape, ps_repositories, ps_sha, .ref sk, ps_intake, ps_view, ps_text, ps_maker, ps_recording, ps_tapeLength, ps_lastFault])), (sk, .inr (9, [sk_bytes, sk_from, sk_firstDependency, sk_firstChange, sk_dependencies, sk_hashes, sk_byHash, sk_leansOn, sk_leantBy, sk_changes, sk_lines, .int 0])), (o, .inl (cL, 1, .inr (.inl ov)))] sz) [(o, .inl (cL, 1, .inr (.inl u)))] t) (va_A [(h, .inr (0, [ps_tape, ps_repositories, ps_sha, .ref sk, ps_intake, ps_view, ps_text, ps_maker, ps_recording, ps_tapeLength, ps_lastFault])), (sk, .inr (9, [sk_bytes, sk_from, sk_firstDependency, sk_firstChange, sk_dependencies, sk_hashes, sk_byHash, sk_leansOn, sk_leantBy, sk_changes, sk_lines, .int 0])), (o, .inl (cL, 1, .inr (.inl ov)))] sz)) 3 18 (va_A [(h, .inr (0, [ps_tape, ps_repositories, ps_sha, .ref sk, ps_intake, ps_view, ps_text, ps_maker, ps_recording, ps_tapeLength, ps_lastFault])), (sk, .inr (9, [sk_bytes, sk_from, sk_firstDependency, sk_firstChange, sk_dependencies, sk_hashes, sk_byHash, sk_leansOn, sk_leantBy, sk_changes, sk_lines, .int 0])), (o, .inl (cL, 1, .inr (.inl ov)))] sz) := by
  refine xc_ofWH (cc := method_13_code) (maxL := 5) (ret := (Option.some Jvm.ClassFile.FieldType.int)) (hh := [((0 : Nat), (10 : Nat), (13 : Nat), (25 : Nat)), ((0 : Nat), (10 : Nat), (17 : Nat), (54 : Nat))]) (by decide) rfl ?_
  intro p e s m args below meth c s₁ B hml hrows hv
  obtain ⟨rfl, hsz, hP, hK, hD0, hN, hTh, hNc⟩ := hv
  have hx := B.exec
  have hb := B.bytes
  have hr := B.returns
  have hts0 := atoms_spec (ws := ws_Lw_hash) B.pre
  have hts : ∀ w ∈ xg_1, w.before _ s = true := fun w h => hts0 w (List.mem_cons_of_mem _ h)
  have hown : s.vm.findClass "PatchStoreLaw" = some m.cls := findClass_of_methodNamed B.named
  have hlocks := B.notSynchronized
  subst hsz
  have hD := hD0.self (sz := s.heap.size)
  generalize hAe : va_A [(h, .inr (0, [ps_tape, ps_repositories, ps_sha, .ref sk, ps_intake, ps_view, ps_text, ps_maker, ps_recording, ps_tapeLength, ps_lastFault])), (sk, .inr (9, [sk_bytes, sk_from, sk_firstDependency, sk_firstChange, sk_dependencies, sk_hashes, sk_byHash, sk_leansOn, sk_leantBy, sk_changes, sk_lines, .int 0])), (o, .inl (cL, 1, .inr (.inl ov)))] s.heap.size = A at hD hTh ⊢
  have hA : ∀ q : Nat, s.heap.size ≤ q → A q := fun q h => by rw [← hAe]; exact Or.inr h
  have hS : va_S A s.heap s.heap [] := va_S.rf
  have hl := lv_entry ([.ref h, .int p0, .int p1, .ref o]) (n := 5) (Nat.le_of_ble_eq_true rfl)
  rw [lg_entry_eq]
  generalize (lg_sl ([.ref h, .int p0, .int p1, .ref o]) ++ List.replicate (5 - (lg_sl ([.ref h, .int p0, .int p1, .ref o])).length) Slot.unset).toArray = ls at hl ⊢
  have hl : lv_has ls 5 [(0, .ref h), (1, .int p0), (2, .int p1), (3, .ref o)] := hl
  refine lv_aload_n hx hb d_Lw_hash_0 rfl (lv_at hl 3 rfl) ?_
  refine lv_iconst (v := 0) hx hb d_Lw_hash_1 (by decide) ?_
  refine lv_aload_n hx hb d_Lw_hash_2 rfl (lv_at hl 0 rfl) ?_
  refine lv_iload_n hx hb d_Lw_hash_3 rfl (lv_at hl 1 rfl) ?_
  refine lv_iload_n hx hb d_Lw_hash_4 rfl (lv_at hl 2 rfl) ?_
  have hPc := hP.sub (ws' := [(h, .inr (0, [ps_tape, ps_repositories, ps_sha, .ref sk, ps_intake, ps_view, ps_text, ps_maker, ps_recording, ps_tapeLength, ps_lastFault])), (sk, .inr (9, [sk_bytes, sk_from, sk_firstDependency, sk_firstChange, sk_dependencies, sk_hashes, sk_byHash, sk_leansOn, sk_leantBy, sk_changes, sk_lines, .int 0]))]) [0, 1] rfl
  have hDc := hD.sub (ws' := [(h, .inr (0, [ps_tape, ps_repositories, ps_sha, .ref sk, ps_intake, ps_view, ps_text, ps_maker, ps_recording, ps_tapeLength, ps_lastFault])), (sk, .inr (9, [sk_bytes, sk_from, sk_firstDependency, sk_firstChange, sk_dependencies, sk_hashes, sk_byHash, sk_leansOn, sk_leantBy, sk_changes, sk_lines, .int 0]))]) [0, 1] (by decide) rfl
  have hFc := va_free (wc := [(h, .inr (0, [ps_tape, ps_repositories, ps_sha, .ref sk, ps_intake, ps_view, ps_text, ps_maker, ps_recording, ps_tapeLength, ps_lastFault])), (sk, .inr (9, [sk_bytes, sk_from, sk_firstDependency, sk_firstChange, sk_dependencies, sk_hashes, sk_byHash, sk_leansOn, sk_leantBy, sk_changes, sk_lines, .int 0]))]) hD hS hA [0, 1] rfl
  refine xc_call (xc_runV (As := [.int p0, .int p1]) (rest := [.int 0, .ref o]) (C := "PatchStore") ⟨hx, hb, hml, hown, hts⟩ (m_PS_hash0 l dC dI cI cB cL cZ cR hlt h sk ps_tape ps_repositories ps_sha ps_intake ps_view ps_text ps_maker ps_recording ps_tapeLength ps_lastFault sk_bytes sk_from sk_firstDependency sk_firstChange sk_dependencies sk_hashes sk_byHash sk_leansOn sk_leantBy sk_changes sk_lines p0 p1 s.heap.size ) (xc_bOf 2 hts (xg_in gw_1275) (xc_Is.code (hts _ gw_1275)) rfl rfl (hts _ gw_1) (by decide +kernel) ⟨Nat.le_of_ble_eq_true rfl, Nat.le_of_ble_eq_true rfl⟩) (hts _ gw_1272) (hts _ gw_1273) (hts _ gw_1274) ⟨xw_blindx, va_recv hK hPc (ci := 0) (q0 := 0) rfl rfl, fun U hU hW => ⟨rfl, by rw [hU], by rw [hU]; exact hPc, va_K.moved hW.alike hK, hDc.weaken (fun _ _ _ _ => trivial), xg_N.warm hW hN, by rw [hU]; exact ((hTh.kept (fun a h1 h2 => hS.2.1 a h1 h2)).narrow hFc).moved hW.alike⟩⟩ rfl rfl hl.1 rfl (lv_room (Nat.le_of_ble_eq_true rfl)) d_Lw_hash_5 ⟨Nat.le_of_ble_eq_true rfl, Nat.le_of_ble_eq_true rfl⟩) hS (fun q _ h => hFc q h) hFc (fun v9 u t H1 locs ht hvm hw hB hz1 hk1 hS => ?_) (fun x9 C9 u t H1 locs ht hvm hw hex hB hz1 hk1 hS => ?_)
  · skip
    exact False.elim hw
  · skip
    have hP1 : va_P (dC, dI) classes [] H1 := fun k q h => by simp at h
    have hD1 : va_D (va_A [(h, .inr (0, [ps_tape, ps_repositories, ps_sha, .ref sk, ps_intake, ps_view, ps_text, ps_maker, ps_recording, ps_tapeLength, ps_lastFault])), (sk, .inr (9, [sk_bytes, sk_from, sk_firstDependency, sk_firstChange, sk_dependencies, sk_hashes, sk_byHash, sk_leansOn, sk_leantBy, sk_changes, sk_lines, .int 0]))] s.heap.size) [] := ⟨fun i j q r h => by simp at h, fun k q h => by simp at h⟩
    obtain ⟨hP, hD⟩ := va_join (wr := [(o, .inl (cL, 1, .inr (.inl ov)))]) (w1 := []) hP hD [0, 1] [2] rfl rfl (by decide) (by decide) hk1 hFc hP1 hD1
    generalize H1 = H at hP hS ht ⊢
    have hP : va_P (dC, dI) classes [(o, .inl (cL, 1, .inr (.inl ov)))] H := hP
    have hD : va_D A [(o, .inl (cL, 1, .inr (.inl ov)))] := hD
    obtain rfl := hw
    skip
    refine xc_catch (tgt := 13) hown hrows ht hvm hex ⟨⟨by decide, by decide⟩, by decide, "java/util/NoSuchElementException", hts _ gw_695, Or.inl ⟨va_Nw.use rfl (hN _ gn_706), rfl⟩⟩ ?_
    refine lv_astore (lv' := [(4, .ref x9), (0, .ref h), (1, .int p0), (2, .int p1), (3, .ref o)]) hx hb d_Lw_hash_13 hl (by decide) rfl (fun ls hl => ?_)
    refine lv_iconst (v := 1) hx hb d_Lw_hash_15 (by decide) ?_
    refine W.widen (k := 3) (n := 18) (Nat.le_of_ble_eq_true rfl) (Nat.le_of_ble_eq_true rfl) ?_
    exact xc_ret (W.iret (v := 1) hx hb hr (fun t ht hW => ⟨Or.inl ⟨_, ov, rfl, rfl, (by rw [ht]; exact hP), va_K.moved hW.alike hK, hD⟩, hS.F ht⟩) hS.2.2 d_Lw_hash_16)
set_option maxHeartbeats 4000000 in
set_option maxRecDepth 100000 in
/-- the law's has -/
theorem m_L_has (l : Launch) (dC : Nat → ClassId) (dI : Nat → Nat → Nat) (cI cB cL cZ cR : ClassId) (hlt : xl_T l) (h rp rr sk o : Nat) (ps_tape ps_sha ps_intake ps_view ps_text ps_maker ps_recording ps_tapeLength ps_lastFault sk_bytes sk_from sk_firstDependency sk_firstChange sk_dependencies sk_hashes sk_byHash sk_leansOn sk_leantBy sk_changes sk_lines : Value) (ov : Nat → Int64) (g : Nat → Nat) (rf : Nat → Option Nat) (p0 p1 p2 : Int32) (sz : Nat) (hrf : ∀ k, k < 8 → rf k = some (g k)) (hrr_rr : ∀ n, n < 8 → p0 = nI n → g n = rr) : xc_Met l y_Lw_has ws_Lw_has ({ frames := 16, cells := 3, slots := 18, locals := 500 }) (xw_Pl dC dI [(cI, .int), (cB, .byte), (cL, .long), (cZ, .boolean), (cR, .object "PatchStore$Repository")] [.ref h, .int p0, .int p1, .int p2, .ref o] [(h, .inr (0, [ps_tape, .ref rp, ps_sha, .ref sk, ps_intake, ps_view, ps_text, ps_maker, ps_recording, ps_tapeLength, ps_lastFault])), (rp, .inl (cR, 8, .inr (.inr (.inr (.inr rf))))), (sk, .inr (9, [sk_bytes, sk_from, sk_firstDependency, sk_firstChange, sk_dependencies, sk_hashes, sk_byHash, sk_leansOn, sk_leantBy, sk_changes, sk_lines, .int 0])), (o, .inl (cL, 1, .inr (.inl ov)))] sz) (xc_Q (S := Nat → Int64) (fun v (_ : Nat → Int64) => v = some (.int 1)) (fun _ _ => False) (fun u t => xw_B dC dI [(cI, .int), (cB, .byte), (cL, .long), (cZ, .boolean), (cR, .object "PatchStore$Repository")] (va_A [(h, .inr (0, [ps_tape, .ref rp, ps_sha, .ref sk, ps_intake, ps_view, ps_text, ps_maker, ps_recording, ps_tapeLength, ps_lastFault])), (rp, .inl (cR, 8, .inr (.inr (.inr (.inr rf))))), (sk, .inr (9, [sk_bytes, sk_from, sk_firstDependency, sk_firstChange, sk_dependencies, sk_hashes, sk_byHash, sk_leansOn, sk_leantBy, sk_changes, sk_lines, .int 0])), (o, .inl (cL, 1, .inr (.inl ov)))] sz) [(o, .inl (cL, 1, .inr (.inl u)))] t) (va_A [(h, .inr (0, [ps_tape, .ref rp, ps_sha, .ref sk, ps_intake, ps_view, ps_text, ps_maker, ps_recording, ps_tapeLength, ps_lastFault])), (rp, .inl (cR, 8, .inr (.inr (.inr (.inr rf))))), (sk, .inr (9, [sk_bytes, sk_from, sk_firstDependency, sk_firstChange, sk_dependencies, sk_hashes, sk_byHash, sk_leansOn, sk_leantBy, sk_changes, sk_lines, .int 0])), (o, .inl (cL, 1, .inr (.inl ov)))] sz)) 3 18 (va_A [(h, .inr (0, [ps_tape, .ref rp, ps_sha, .ref sk, ps_intake, ps_view, ps_text, ps_maker, ps_recording, ps_tapeLength, ps_lastFault])), (rp, .inl (cR, 8, .inr (.inr (.inr (.inr rf))))), (sk, .inr (9, [sk_bytes, sk_from, sk_firstDependency, sk_firstChange, sk_dependencies, sk_hashes, sk_byHash, sk_leansOn, sk_leantBy, sk_changes, sk_lines, .int 0])), (o, .inl (cL, 1, .inr (.inl ov)))] sz) := by
  refine xc_ofWH (cc := method_12_code) (maxL := 6) (ret := (Option.some Jvm.ClassFile.FieldType.int)) (hh := [((0 : Nat), (12 : Nat), (15 : Nat), (25 : Nat)), ((0 : Nat), (12 : Nat), (19 : Nat), (19 : Nat))]) (by decide) rfl ?_
  intro p e s m args below meth c s₁ B hml hrows hv
  obtain ⟨rfl, hsz, hP, hK, hD0, hN, hTh, hNc⟩ := hv
  have hx := B.exec
  have hb := B.bytes
  have hr := B.returns
  have hts0 := atoms_spec (ws := ws_Lw_has) B.pre
  have hts : ∀ w ∈ xg_1, w.before _ s = true := fun w h => hts0 w (List.mem_cons_of_mem _ h)
  have hown : s.vm.findClass "PatchStoreLaw" = some m.cls := findClass_of_methodNamed B.named
  have hlocks := B.notSynchronized
  subst hsz
  have hD := hD0.self (sz := s.heap.size)
  generalize hAe : va_A [(h, .inr (0, [ps_tape, .ref rp, ps_sha, .ref sk, ps_intake, ps_view, ps_text, ps_maker, ps_recording, ps_tapeLength, ps_lastFault])), (rp, .inl (cR, 8, .inr (.inr (.inr (.inr rf))))), (sk, .inr (9, [sk_bytes, sk_from, sk_firstDependency, sk_firstChange, sk_dependencies, sk_hashes, sk_byHash, sk_leansOn, sk_leantBy, sk_changes, sk_lines, .int 0])), (o, .inl (cL, 1, .inr (.inl ov)))] s.heap.size = A at hD hTh ⊢
  have hA : ∀ q : Nat, s.heap.size ≤ q → A q := fun q h => by rw [← hAe]; exact Or.inr h
  have hS : va_S A s.heap s.heap [] := va_S.rf
  have hl := lv_entry ([.ref h, .int p0, .int p1, .int p2, .ref o]) (n := 6) (Nat.le_of_ble_eq_true rfl)
  rw [lg_entry_eq]
  generalize (lg_sl ([.ref h, .int p0, .int p1, .int p2, .ref o]) ++ List.replicate (6 - (lg_sl ([.ref h, .int p0, .int p1, .int p2, .ref o])).length) Slot.unset).toArray = ls at hl ⊢
  have hl : lv_has ls 6 [(0, .ref h), (1, .int p0), (2, .int p1), (3, .int p2), (4, .ref o)] := hl
  refine lv_aload hx hb d_Lw_has_0 (lv_at hl 4 rfl) ?_
  refine lv_iconst (v := 0) hx hb d_Lw_has_2 (by decide) ?_
  refine lv_aload_n hx hb d_Lw_has_3 rfl (lv_at hl 0 rfl) ?_
  refine lv_iload_n hx hb d_Lw_has_4 rfl (lv_at hl 1 rfl) ?_
  refine lv_iload_n hx hb d_Lw_has_5 rfl (lv_at hl 2 rfl) ?_
  refine lv_iload_n hx hb d_Lw_has_6 rfl (lv_at hl 3 rfl) ?_
  have hPc := hP.sub (ws' := [(h, .inr (0, [ps_tape, .ref rp, ps_sha, .ref sk, ps_intake, ps_view, ps_text, ps_maker, ps_recording, ps_tapeLength, ps_lastFault])), (rp, .inl (cR, 8, .inr (.inr (.inr (.inr rf))))), (sk, .inr (9, [sk_bytes, sk_from, sk_firstDependency, sk_firstChange, sk_dependencies, sk_hashes, sk_byHash, sk_leansOn, sk_leantBy, sk_changes, sk_lines, .int 0]))]) [0, 1, 2] rfl
  have hDc := hD.sub (ws' := [(h, .inr (0, [ps_tape, .ref rp, ps_sha, .ref sk, ps_intake, ps_view, ps_text, ps_maker, ps_recording, ps_tapeLength, ps_lastFault])), (rp, .inl (cR, 8, .inr (.inr (.inr (.inr rf))))), (sk, .inr (9, [sk_bytes, sk_from, sk_firstDependency, sk_firstChange, sk_dependencies, sk_hashes, sk_byHash, sk_leansOn, sk_leantBy, sk_changes, sk_lines, .int 0]))]) [0, 1, 2] (by decide) rfl
  have hFc := va_free (wc := [(h, .inr (0, [ps_tape, .ref rp, ps_sha, .ref sk, ps_intake, ps_view, ps_text, ps_maker, ps_recording, ps_tapeLength, ps_lastFault])), (rp, .inl (cR, 8, .inr (.inr (.inr (.inr rf))))), (sk, .inr (9, [sk_bytes, sk_from, sk_firstDependency, sk_firstChange, sk_dependencies, sk_hashes, sk_byHash, sk_leansOn, sk_leantBy, sk_changes, sk_lines, .int 0]))]) hD hS hA [0, 1, 2] rfl
  refine xc_call (xc_runV (As := [.int p0, .int p1, .int p2]) (rest := [.int 0, .ref o]) (C := "PatchStore") ⟨hx, hb, hml, hown, hts⟩ (m_PS_has0 l dC dI cI cB cL cZ cR hlt h rp rr sk ps_tape ps_sha ps_intake ps_view ps_text ps_maker ps_recording ps_tapeLength ps_lastFault sk_bytes sk_from sk_firstDependency sk_firstChange sk_dependencies sk_hashes sk_byHash sk_leansOn sk_leantBy sk_changes sk_lines g rf p0 p1 p2 s.heap.size hrf hrr_rr) (xc_bOf 3 hts (xg_in gw_1262) (xc_Is.code (hts _ gw_1262)) rfl rfl (hts _ gw_1) (by decide +kernel) ⟨Nat.le_of_ble_eq_true rfl, Nat.le_of_ble_eq_true rfl⟩) (hts _ gw_1259) (hts _ gw_1260) (hts _ gw_1261) ⟨xw_blindx, va_recv hK hPc (ci := 0) (q0 := 0) rfl rfl, fun U hU hW => ⟨rfl, by rw [hU], by rw [hU]; exact hPc, va_K.moved hW.alike hK, hDc.weaken (fun _ _ _ _ => trivial), xg_N.warm hW hN, by rw [hU]; exact ((hTh.kept (fun a h1 h2 => hS.2.1 a h1 h2)).narrow hFc).moved hW.alike⟩⟩ rfl rfl hl.1 rfl (lv_room (Nat.le_of_ble_eq_true rfl)) d_Lw_has_7 ⟨Nat.le_of_ble_eq_true rfl, Nat.le_of_ble_eq_true rfl⟩) hS (fun q _ h => hFc q h) hFc (fun v9 u t H1 locs ht hvm hw hB hz1 hk1 hS => ?_) (fun x9 C9 u t H1 locs ht hvm hw hex hB hz1 hk1 hS => ?_)
  · skip
    exact False.elim hw
  · skip
    have hP1 : va_P (dC, dI) classes [] H1 := fun k q h => by simp at h
    have hD1 : va_D (va_A [(h, .inr (0, [ps_tape, .ref rp, ps_sha, .ref sk, ps_intake, ps_view, ps_text, ps_maker, ps_recording, ps_tapeLength, ps_lastFault])), (rp, .inl (cR, 8, .inr (.inr (.inr (.inr rf))))), (sk, .inr (9, [sk_bytes, sk_from, sk_firstDependency, sk_firstChange, sk_dependencies, sk_hashes, sk_byHash, sk_leansOn, sk_leantBy, sk_changes, sk_lines, .int 0]))] s.heap.size) [] := ⟨fun i j q r h => by simp at h, fun k q h => by simp at h⟩
    obtain ⟨hP, hD⟩ := va_join (wr := [(o, .inl (cL, 1, .inr (.inl ov)))]) (w1 := []) hP hD [0, 1, 2] [3] rfl rfl (by decide) (by decide) hk1 hFc hP1 hD1
    generalize H1 = H at hP hS ht ⊢
    have hP : va_P (dC, dI) classes [(o, .inl (cL, 1, .inr (.inl ov)))] H := hP
    have hD : va_D A [(o, .inl (cL, 1, .inr (.inl ov)))] := hD
    rcases hw with ⟨-, rfl⟩ | ⟨-, rfl⟩
    · skip
      refine xc_catch (tgt := 15) hown hrows ht hvm hex ⟨⟨by decide, by decide⟩, by decide, "java/util/NoSuchElementException", hts _ gw_695, Or.inl ⟨va_Nw.use rfl (hN _ gn_706), rfl⟩⟩ ?_
      refine lv_astore (lv' := [(5, .ref x9), (0, .ref h), (1, .int p0), (2, .int p1), (3, .int p2), (4, .ref o)]) hx hb d_Lw_has_15 hl (by decide) rfl (fun ls hl => ?_)
      refine lv_iconst (v := 1) hx hb d_Lw_has_17 (by decide) ?_
      refine W.widen (k := 3) (n := 18) (Nat.le_of_ble_eq_true rfl) (Nat.le_of_ble_eq_true rfl) ?_
      exact xc_ret (W.iret (v := 1) hx hb hr (fun t ht hW => ⟨Or.inl ⟨_, ov, rfl, rfl, (by rw [ht]; exact hP), va_K.moved hW.alike hK, hD⟩, hS.F ht⟩) hS.2.2 d_Lw_has_18)
    · skip
      refine xc_catch (tgt := 15) hown hrows ht hvm hex ⟨⟨by decide, by decide⟩, by decide, "java/util/NoSuchElementException", hts _ gw_695, Or.inl ⟨va_Nw.use rfl (hN _ gn_706), rfl⟩⟩ ?_
      refine lv_astore (lv' := [(5, .ref x9), (0, .ref h), (1, .int p0), (2, .int p1), (3, .int p2), (4, .ref o)]) hx hb d_Lw_has_15 hl (by decide) rfl (fun ls hl => ?_)
      refine lv_iconst (v := 1) hx hb d_Lw_has_17 (by decide) ?_
      refine W.widen (k := 3) (n := 18) (Nat.le_of_ble_eq_true rfl) (Nat.le_of_ble_eq_true rfl) ?_
      exact xc_ret (W.iret (v := 1) hx hb hr (fun t ht hW => ⟨Or.inl ⟨_, ov, rfl, rfl, (by rw [ht]; exact hP), va_K.moved hW.alike hK, hD⟩, hS.F ht⟩) hS.2.2 d_Lw_has_18)
set_option maxHeartbeats 4000000 in
set_option maxRecDepth 100000 in
/-- the law's drop -/
theorem m_L_drop (l : Launch) (dC : Nat → ClassId) (dI : Nat → Nat → Nat) (cI cB cL cZ cR : ClassId) (hlt : xl_T l) (h rp rr mb o : Nat) (ps_tape ps_sha ps_stock ps_intake ps_view ps_text ps_maker ps_recording ps_tapeLength ps_lastFault rr_digest rr_size rr_version rr_digestVersion : Value) (mw ov : Nat → Int64) (g : Nat → Nat) (rf : Nat → Option Nat) (p0 p1 : Int32) (sz : Nat) (hrf : ∀ k, k < 8 → rf k = some (g k)) (hrr_rr : ∀ n, n < 8 → p0 = nI n → g n = rr) (hz : ∀ j, j < 8 → mw j = 0) : xc_Met l y_Lw_drop ws_Lw_drop ({ frames := 16, cells := 3, slots := 18, locals := 500 }) (xw_Pl dC dI [(cI, .int), (cB, .byte), (cL, .long), (cZ, .boolean), (cR, .object "PatchStore$Repository")] [.ref h, .int p0, .int p1, .ref o] [(h, .inr (0, [ps_tape, .ref rp, ps_sha, ps_stock, ps_intake, ps_view, ps_text, ps_maker, ps_recording, ps_tapeLength, ps_lastFault])), (rp, .inl (cR, 8, .inr (.inr (.inr (.inr rf))))), (rr, .inr (7, [.ref mb, rr_digest, rr_size, rr_version, rr_digestVersion])), (mb, .inl (cL, 8, .inr (.inl mw))), (o, .inl (cL, 1, .inr (.inl ov)))] sz) (xc_Q (S := Nat → Int64) (fun v (_ : Nat → Int64) => v = some (.int 1)) (fun _ _ => False) (fun u t => xw_B dC dI [(cI, .int), (cB, .byte), (cL, .long), (cZ, .boolean), (cR, .object "PatchStore$Repository")] (va_A [(h, .inr (0, [ps_tape, .ref rp, ps_sha, ps_stock, ps_intake, ps_view, ps_text, ps_maker, ps_recording, ps_tapeLength, ps_lastFault])), (rp, .inl (cR, 8, .inr (.inr (.inr (.inr rf))))), (rr, .inr (7, [.ref mb, rr_digest, rr_size, rr_version, rr_digestVersion])), (mb, .inl (cL, 8, .inr (.inl mw))), (o, .inl (cL, 1, .inr (.inl ov)))] sz) [(o, .inl (cL, 1, .inr (.inl u)))] t) (va_A [(h, .inr (0, [ps_tape, .ref rp, ps_sha, ps_stock, ps_intake, ps_view, ps_text, ps_maker, ps_recording, ps_tapeLength, ps_lastFault])), (rp, .inl (cR, 8, .inr (.inr (.inr (.inr rf))))), (rr, .inr (7, [.ref mb, rr_digest, rr_size, rr_version, rr_digestVersion])), (mb, .inl (cL, 8, .inr (.inl mw))), (o, .inl (cL, 1, .inr (.inl ov)))] sz)) 3 18 (va_A [(h, .inr (0, [ps_tape, .ref rp, ps_sha, ps_stock, ps_intake, ps_view, ps_text, ps_maker, ps_recording, ps_tapeLength, ps_lastFault])), (rp, .inl (cR, 8, .inr (.inr (.inr (.inr rf))))), (rr, .inr (7, [.ref mb, rr_digest, rr_size, rr_version, rr_digestVersion])), (mb, .inl (cL, 8, .inr (.inl mw))), (o, .inl (cL, 1, .inr (.inl ov)))] sz) := by
  refine xc_ofWH (cc := method_11_code) (maxL := 5) (ret := (Option.some Jvm.ClassFile.FieldType.int)) (hh := [((0 : Nat), (10 : Nat), (13 : Nat), (25 : Nat)), ((0 : Nat), (10 : Nat), (17 : Nat), (13 : Nat))]) (by decide) rfl ?_
  intro p e s m args below meth c s₁ B hml hrows hv
  obtain ⟨rfl, hsz, hP, hK, hD0, hN, hTh, hNc⟩ := hv
  have hx := B.exec
  have hb := B.bytes
  have hr := B.returns
  have hts0 := atoms_spec (ws := ws_Lw_drop) B.pre
  have hts : ∀ w ∈ xg_1, w.before _ s = true := fun w h => hts0 w (List.mem_cons_of_mem _ h)
  have hown : s.vm.findClass "PatchStoreLaw" = some m.cls := findClass_of_methodNamed B.named
  have hlocks := B.notSynchronized
  subst hsz
  have hD := hD0.self (sz := s.heap.size)
  generalize hAe : va_A [(h, .inr (0, [ps_tape, .ref rp, ps_sha, ps_stock, ps_intake, ps_view, ps_text, ps_maker, ps_recording, ps_tapeLength, ps_lastFault])), (rp, .inl (cR, 8, .inr (.inr (.inr (.inr rf))))), (rr, .inr (7, [.ref mb, rr_digest, rr_size, rr_version, rr_digestVersion])), (mb, .inl (cL, 8, .inr (.inl mw))), (o, .inl (cL, 1, .inr (.inl ov)))] s.heap.size = A at hD hTh ⊢
  have hA : ∀ q : Nat, s.heap.size ≤ q → A q := fun q h => by rw [← hAe]; exact Or.inr h
  have hS : va_S A s.heap s.heap [] := va_S.rf
  have hl := lv_entry ([.ref h, .int p0, .int p1, .ref o]) (n := 5) (Nat.le_of_ble_eq_true rfl)
  rw [lg_entry_eq]
  generalize (lg_sl ([.ref h, .int p0, .int p1, .ref o]) ++ List.replicate (5 - (lg_sl ([.ref h, .int p0, .int p1, .ref o])).length) Slot.unset).toArray = ls at hl ⊢
  have hl : lv_has ls 5 [(0, .ref h), (1, .int p0), (2, .int p1), (3, .ref o)] := hl
  refine lv_aload_n hx hb d_Lw_drop_0 rfl (lv_at hl 3 rfl) ?_
  refine lv_iconst (v := 0) hx hb d_Lw_drop_1 (by decide) ?_
  refine lv_aload_n hx hb d_Lw_drop_2 rfl (lv_at hl 0 rfl) ?_
  refine lv_iload_n hx hb d_Lw_drop_3 rfl (lv_at hl 1 rfl) ?_
  refine lv_iload_n hx hb d_Lw_drop_4 rfl (lv_at hl 2 rfl) ?_
  have hPc := hP.sub (ws' := [(h, .inr (0, [ps_tape, .ref rp, ps_sha, ps_stock, ps_intake, ps_view, ps_text, ps_maker, ps_recording, ps_tapeLength, ps_lastFault])), (rp, .inl (cR, 8, .inr (.inr (.inr (.inr rf))))), (rr, .inr (7, [.ref mb, rr_digest, rr_size, rr_version, rr_digestVersion])), (mb, .inl (cL, 8, .inr (.inl mw)))]) [0, 1, 2, 3] rfl
  have hDc := hD.sub (ws' := [(h, .inr (0, [ps_tape, .ref rp, ps_sha, ps_stock, ps_intake, ps_view, ps_text, ps_maker, ps_recording, ps_tapeLength, ps_lastFault])), (rp, .inl (cR, 8, .inr (.inr (.inr (.inr rf))))), (rr, .inr (7, [.ref mb, rr_digest, rr_size, rr_version, rr_digestVersion])), (mb, .inl (cL, 8, .inr (.inl mw)))]) [0, 1, 2, 3] (by decide) rfl
  have hFc := va_free (wc := [(h, .inr (0, [ps_tape, .ref rp, ps_sha, ps_stock, ps_intake, ps_view, ps_text, ps_maker, ps_recording, ps_tapeLength, ps_lastFault])), (rp, .inl (cR, 8, .inr (.inr (.inr (.inr rf))))), (rr, .inr (7, [.ref mb, rr_digest, rr_size, rr_version, rr_digestVersion])), (mb, .inl (cL, 8, .inr (.inl mw)))]) hD hS hA [0, 1, 2, 3] rfl
  refine xc_call (xc_runV (As := [.int p0, .int p1]) (rest := [.int 0, .ref o]) (C := "PatchStore") ⟨hx, hb, hml, hown, hts⟩ (m_PS_drop0 l dC dI cI cB cL cZ cR hlt h rp rr mb ps_tape ps_sha ps_stock ps_intake ps_view ps_text ps_maker ps_recording ps_tapeLength ps_lastFault rr_digest rr_size rr_version rr_digestVersion mw g rf p0 p1 s.heap.size hrf hrr_rr hz) (xc_bOf 2 hts (xg_in gw_1247) (xc_Is.code (hts _ gw_1247)) rfl rfl (hts _ gw_1) (by decide +kernel) ⟨Nat.le_of_ble_eq_true rfl, Nat.le_of_ble_eq_true rfl⟩) (hts _ gw_1244) (hts _ gw_1245) (hts _ gw_1246) ⟨xw_blindx, va_recv hK hPc (ci := 0) (q0 := 0) rfl rfl, fun U hU hW => ⟨rfl, by rw [hU], by rw [hU]; exact hPc, va_K.moved hW.alike hK, hDc.weaken (fun _ _ _ _ => trivial), xg_N.warm hW hN, by rw [hU]; exact ((hTh.kept (fun a h1 h2 => hS.2.1 a h1 h2)).narrow hFc).moved hW.alike⟩⟩ rfl rfl hl.1 rfl (lv_room (Nat.le_of_ble_eq_true rfl)) d_Lw_drop_5 ⟨Nat.le_of_ble_eq_true rfl, Nat.le_of_ble_eq_true rfl⟩) hS (fun q _ h => hFc q h) hFc (fun v9 u t H1 locs ht hvm hw hB hz1 hk1 hS => ?_) (fun x9 C9 u t H1 locs ht hvm hw hex hB hz1 hk1 hS => ?_)
  · skip
    exact False.elim hw
  · skip
    have hP1 : va_P (dC, dI) classes [] H1 := fun k q h => by simp at h
    have hD1 : va_D (va_A [(h, .inr (0, [ps_tape, .ref rp, ps_sha, ps_stock, ps_intake, ps_view, ps_text, ps_maker, ps_recording, ps_tapeLength, ps_lastFault])), (rp, .inl (cR, 8, .inr (.inr (.inr (.inr rf))))), (rr, .inr (7, [.ref mb, rr_digest, rr_size, rr_version, rr_digestVersion])), (mb, .inl (cL, 8, .inr (.inl mw)))] s.heap.size) [] := ⟨fun i j q r h => by simp at h, fun k q h => by simp at h⟩
    obtain ⟨hP, hD⟩ := va_join (wr := [(o, .inl (cL, 1, .inr (.inl ov)))]) (w1 := []) hP hD [0, 1, 2, 3] [4] rfl rfl (by decide) (by decide) hk1 hFc hP1 hD1
    generalize H1 = H at hP hS ht ⊢
    have hP : va_P (dC, dI) classes [(o, .inl (cL, 1, .inr (.inl ov)))] H := hP
    have hD : va_D A [(o, .inl (cL, 1, .inr (.inl ov)))] := hD
    rcases hw with ⟨-, rfl⟩ | ⟨-, rfl⟩
    · skip
      refine xc_catch (tgt := 13) hown hrows ht hvm hex ⟨⟨by decide, by decide⟩, by decide, "java/util/NoSuchElementException", hts _ gw_695, Or.inl ⟨va_Nw.use rfl (hN _ gn_706), rfl⟩⟩ ?_
      refine lv_astore (lv' := [(4, .ref x9), (0, .ref h), (1, .int p0), (2, .int p1), (3, .ref o)]) hx hb d_Lw_drop_13 hl (by decide) rfl (fun ls hl => ?_)
      refine lv_iconst (v := 1) hx hb d_Lw_drop_15 (by decide) ?_
      refine W.widen (k := 3) (n := 18) (Nat.le_of_ble_eq_true rfl) (Nat.le_of_ble_eq_true rfl) ?_
      exact xc_ret (W.iret (v := 1) hx hb hr (fun t ht hW => ⟨Or.inl ⟨_, ov, rfl, rfl, (by rw [ht]; exact hP), va_K.moved hW.alike hK, hD⟩, hS.F ht⟩) hS.2.2 d_Lw_drop_16)
    · skip
      refine xc_catch (tgt := 13) hown hrows ht hvm hex ⟨⟨by decide, by decide⟩, by decide, "java/util/NoSuchElementException", hts _ gw_695, Or.inl ⟨va_Nw.use rfl (hN _ gn_706), rfl⟩⟩ ?_
      refine lv_astore (lv' := [(4, .ref x9), (0, .ref h), (1, .int p0), (2, .int p1), (3, .ref o)]) hx hb d_Lw_drop_13 hl (by decide) rfl (fun ls hl => ?_)
      refine lv_iconst (v := 1) hx hb d_Lw_drop_15 (by decide) ?_
      refine W.widen (k := 3) (n := 18) (Nat.le_of_ble_eq_true rfl) (Nat.le_of_ble_eq_true rfl) ?_
      exact xc_ret (W.iret (v := 1) hx hb hr (fun t ht hW => ⟨Or.inl ⟨_, ov, rfl, rfl, (by rw [ht]; exact hP), va_K.moved hW.alike hK, hD⟩, hS.F ht⟩) hS.2.2 d_Lw_drop_16)
set_option maxHeartbeats 4000000 in
set_option maxRecDepth 100000 in
/-- the law's add -/
theorem m_L_add (l : Launch) (dC : Nat → ClassId) (dI : Nat → Nat → Nat) (cI cB cL cZ cR : ClassId) (hlt : xl_T l) (h rp o : Nat) (ps_tape ps_sha ps_stock ps_intake ps_view ps_text ps_maker ps_recording ps_lastFault : Value) (ov : Nat → Int64) (g : Nat → Nat) (rf : Nat → Option Nat) (p0 p1 : Int32) (sz : Nat) (hrf : ∀ k, k < 8 → rf k = some (g k)) : xc_Met l y_Lw_add ws_Lw_add ({ frames := 16, cells := 3, slots := 18, locals := 500 }) (xw_Pl dC dI [(cI, .int), (cB, .byte), (cL, .long), (cZ, .boolean), (cR, .object "PatchStore$Repository")] [.ref h, .int p0, .int p1, .ref o] [(h, .inr (0, [ps_tape, .ref rp, ps_sha, ps_stock, ps_intake, ps_view, ps_text, ps_maker, ps_recording, .int 0, ps_lastFault])), (rp, .inl (cR, 8, .inr (.inr (.inr (.inr rf))))), (o, .inl (cL, 1, .inr (.inl ov)))] sz) (xc_Q (S := Nat → Int64) (fun v (_ : Nat → Int64) => ((¬ ∃ n : Nat, n < 8 ∧ p0 = nI n) ∧ v = some (.int 1)) ∨ ((∃ n : Nat, n < 8 ∧ p0 = nI n) ∧ v = some (.int 2))) (fun _ _ => False) (fun u t => xw_B dC dI [(cI, .int), (cB, .byte), (cL, .long), (cZ, .boolean), (cR, .object "PatchStore$Repository")] (va_A [(h, .inr (0, [ps_tape, .ref rp, ps_sha, ps_stock, ps_intake, ps_view, ps_text, ps_maker, ps_recording, .int 0, ps_lastFault])), (rp, .inl (cR, 8, .inr (.inr (.inr (.inr rf))))), (o, .inl (cL, 1, .inr (.inl ov)))] sz) [(o, .inl (cL, 1, .inr (.inl u)))] t) (va_A [(h, .inr (0, [ps_tape, .ref rp, ps_sha, ps_stock, ps_intake, ps_view, ps_text, ps_maker, ps_recording, .int 0, ps_lastFault])), (rp, .inl (cR, 8, .inr (.inr (.inr (.inr rf))))), (o, .inl (cL, 1, .inr (.inl ov)))] sz)) 3 18 (va_A [(h, .inr (0, [ps_tape, .ref rp, ps_sha, ps_stock, ps_intake, ps_view, ps_text, ps_maker, ps_recording, .int 0, ps_lastFault])), (rp, .inl (cR, 8, .inr (.inr (.inr (.inr rf))))), (o, .inl (cL, 1, .inr (.inl ov)))] sz) := by
  refine xc_ofWH (cc := method_5_code) (maxL := 5) (ret := (Option.some Jvm.ClassFile.FieldType.int)) (hh := [((0 : Nat), (10 : Nat), (13 : Nat), (25 : Nat)), ((0 : Nat), (10 : Nat), (17 : Nat), (19 : Nat)), ((0 : Nat), (10 : Nat), (21 : Nat), (13 : Nat))]) (by decide) rfl ?_
  intro p e s m args below meth c s₁ B hml hrows hv
  obtain ⟨rfl, hsz, hP, hK, hD0, hN, hTh, hNc⟩ := hv
  have hx := B.exec
  have hb := B.bytes
  have hr := B.returns
  have hts0 := atoms_spec (ws := ws_Lw_add) B.pre
  have hts : ∀ w ∈ xg_1, w.before _ s = true := fun w h => hts0 w (List.mem_cons_of_mem _ h)
  have hown : s.vm.findClass "PatchStoreLaw" = some m.cls := findClass_of_methodNamed B.named
  have hlocks := B.notSynchronized
  subst hsz
  have hD := hD0.self (sz := s.heap.size)
  generalize hAe : va_A [(h, .inr (0, [ps_tape, .ref rp, ps_sha, ps_stock, ps_intake, ps_view, ps_text, ps_maker, ps_recording, .int 0, ps_lastFault])), (rp, .inl (cR, 8, .inr (.inr (.inr (.inr rf))))), (o, .inl (cL, 1, .inr (.inl ov)))] s.heap.size = A at hD hTh ⊢
  have hA : ∀ q : Nat, s.heap.size ≤ q → A q := fun q h => by rw [← hAe]; exact Or.inr h
  have hS : va_S A s.heap s.heap [] := va_S.rf
  have hl := lv_entry ([.ref h, .int p0, .int p1, .ref o]) (n := 5) (Nat.le_of_ble_eq_true rfl)
  rw [lg_entry_eq]
  generalize (lg_sl ([.ref h, .int p0, .int p1, .ref o]) ++ List.replicate (5 - (lg_sl ([.ref h, .int p0, .int p1, .ref o])).length) Slot.unset).toArray = ls at hl ⊢
  have hl : lv_has ls 5 [(0, .ref h), (1, .int p0), (2, .int p1), (3, .ref o)] := hl
  refine lv_aload_n hx hb d_Lw_add_0 rfl (lv_at hl 3 rfl) ?_
  refine lv_iconst (v := 0) hx hb d_Lw_add_1 (by decide) ?_
  refine lv_aload_n hx hb d_Lw_add_2 rfl (lv_at hl 0 rfl) ?_
  refine lv_iload_n hx hb d_Lw_add_3 rfl (lv_at hl 1 rfl) ?_
  refine lv_iload_n hx hb d_Lw_add_4 rfl (lv_at hl 2 rfl) ?_
  have hPc := hP.sub (ws' := [(h, .inr (0, [ps_tape, .ref rp, ps_sha, ps_stock, ps_intake, ps_view, ps_text, ps_maker, ps_recording, .int 0, ps_lastFault])), (rp, .inl (cR, 8, .inr (.inr (.inr (.inr rf)))))]) [0, 1] rfl
  have hDc := hD.sub (ws' := [(h, .inr (0, [ps_tape, .ref rp, ps_sha, ps_stock, ps_intake, ps_view, ps_text, ps_maker, ps_recording, .int 0, ps_lastFault])), (rp, .inl (cR, 8, .inr (.inr (.inr (.inr rf)))))]) [0, 1] (by decide) rfl
  have hFc := va_free (wc := [(h, .inr (0, [ps_tape, .ref rp, ps_sha, ps_stock, ps_intake, ps_view, ps_text, ps_maker, ps_recording, .int 0, ps_lastFault])), (rp, .inl (cR, 8, .inr (.inr (.inr (.inr rf)))))]) hD hS hA [0, 1] rfl
  refine xc_call (xc_runV (As := [.int p0, .int p1]) (rest := [.int 0, .ref o]) (C := "PatchStore") ⟨hx, hb, hml, hown, hts⟩ (m_PS_add0 l dC dI cI cB cL cZ cR hlt h rp ps_tape ps_sha ps_stock ps_intake ps_view ps_text ps_maker ps_recording ps_lastFault g rf p0 p1 s.heap.size hrf) (xc_bOf 2 hts (xg_in gw_699) (xc_Is.code (hts _ gw_699)) rfl rfl (hts _ gw_1) (by decide +kernel) ⟨Nat.le_of_ble_eq_true rfl, Nat.le_of_ble_eq_true rfl⟩) (hts _ gw_696) (hts _ gw_697) (hts _ gw_698) ⟨xw_blindx, va_recv hK hPc (ci := 0) (q0 := 0) rfl rfl, fun U hU hW => ⟨rfl, by rw [hU], by rw [hU]; exact hPc, va_K.moved hW.alike hK, hDc.weaken (fun _ _ _ _ => trivial), xg_N.warm hW hN, by rw [hU]; exact ((hTh.kept (fun a h1 h2 => hS.2.1 a h1 h2)).narrow hFc).moved hW.alike⟩⟩ rfl rfl hl.1 rfl (lv_room (Nat.le_of_ble_eq_true rfl)) d_Lw_add_5 ⟨Nat.le_of_ble_eq_true rfl, Nat.le_of_ble_eq_true rfl⟩) hS (fun q _ h => hFc q h) hFc (fun v9 u t H1 locs ht hvm hw hB hz1 hk1 hS => ?_) (fun x9 C9 u t H1 locs ht hvm hw hex hB hz1 hk1 hS => ?_)
  · skip
    exact False.elim hw
  · skip
    have hP1 : va_P (dC, dI) classes [] H1 := fun k q h => by simp at h
    have hD1 : va_D (va_A [(h, .inr (0, [ps_tape, .ref rp, ps_sha, ps_stock, ps_intake, ps_view, ps_text, ps_maker, ps_recording, .int 0, ps_lastFault])), (rp, .inl (cR, 8, .inr (.inr (.inr (.inr rf)))))] s.heap.size) [] := ⟨fun i j q r h => by simp at h, fun k q h => by simp at h⟩
    obtain ⟨hP, hD⟩ := va_join (wr := [(o, .inl (cL, 1, .inr (.inl ov)))]) (w1 := []) hP hD [0, 1] [2] rfl rfl (by decide) (by decide) hk1 hFc hP1 hD1
    generalize H1 = H at hP hS ht ⊢
    have hP : va_P (dC, dI) classes [(o, .inl (cL, 1, .inr (.inl ov)))] H := hP
    have hD : va_D A [(o, .inl (cL, 1, .inr (.inl ov)))] := hD
    rcases hw with ⟨hb9, rfl⟩ | ⟨hb9, rfl⟩
    · skip
      refine xc_catch (tgt := 13) hown hrows ht hvm hex ⟨⟨by decide, by decide⟩, by decide, "java/util/NoSuchElementException", hts _ gw_695, Or.inl ⟨va_Nw.use rfl (hN _ gn_706), rfl⟩⟩ ?_
      refine lv_astore (lv' := [(4, .ref x9), (0, .ref h), (1, .int p0), (2, .int p1), (3, .ref o)]) hx hb d_Lw_add_13 hl (by decide) rfl (fun ls hl => ?_)
      refine lv_iconst (v := 1) hx hb d_Lw_add_15 (by decide) ?_
      refine W.widen (k := 3) (n := 18) (Nat.le_of_ble_eq_true rfl) (Nat.le_of_ble_eq_true rfl) ?_
      exact xc_ret (W.iret (v := 1) hx hb hr (fun t ht hW => ⟨Or.inl ⟨_, ov, rfl, Or.inl ⟨hb9, rfl⟩, (by rw [ht]; exact hP), va_K.moved hW.alike hK, hD⟩, hS.F ht⟩) hS.2.2 d_Lw_add_16)
    · skip
      refine xc_catch (tgt := 17) hown hrows ht hvm hex ⟨⟨by decide, by decide⟩, by decide, "java/util/NoSuchElementException", hts _ gw_695, Or.inr ⟨hNc ("java/lang/IllegalArgumentException", "java/util/NoSuchElementException") (by decide), ⟨⟨by decide, by decide⟩, by decide, "java/lang/IllegalArgumentException", hts _ gw_672, Or.inl ⟨va_Nw.use rfl (hN _ gn_679), rfl⟩⟩⟩⟩ ?_
      refine lv_astore (lv' := [(4, .ref x9), (0, .ref h), (1, .int p0), (2, .int p1), (3, .ref o)]) hx hb d_Lw_add_17 hl (by decide) rfl (fun ls hl => ?_)
      refine lv_iconst (v := 2) hx hb d_Lw_add_19 (by decide) ?_
      refine W.widen (k := 3) (n := 18) (Nat.le_of_ble_eq_true rfl) (Nat.le_of_ble_eq_true rfl) ?_
      exact xc_ret (W.iret (v := 2) hx hb hr (fun t ht hW => ⟨Or.inl ⟨_, ov, rfl, Or.inr ⟨hb9, rfl⟩, (by rw [ht]; exact hP), va_K.moved hW.alike hK, hD⟩, hS.F ht⟩) hS.2.2 d_Lw_add_20)
set_option maxHeartbeats 4000000 in
set_option maxRecDepth 100000 in
/-- the law's read -/
theorem m_L_read (l : Launch) (dC : Nat → ClassId) (dI : Nat → Nat → Nat) (cI cB cL cZ cR : ClassId) (hlt : xl_T l) (h rp rr sk b_y fr ta it fo o : Nat) (ps_sha ps_view ps_text ps_maker ps_recording ps_lastFault sk_firstDependency sk_firstChange sk_dependencies sk_hashes sk_byHash sk_leansOn sk_leantBy sk_changes sk_lines it_stock it_changes it_lines it_sha it_named it_linesOfFile it_nextFile it_nextLine : Value) (NB NF NT : Nat) (bf ff tf : Nat → Int32) (ov : Nat → Int64) (g : Nat → Nat) (rf : Nat → Option Nat) (p0 : Int32) (sz : Nat) (hrf : ∀ k, k < 8 → rf k = some (g k)) (hrr_rr : ∀ n, n < 8 → p0 = nI n → g n = rr) (hff : ff 0 = 0) (hNB : NB < 2 ^ 31) (hNT : NT < 2 ^ 31) (hNF : NF < 2 ^ 31) (hpn : 0 + 1 < NF) : xc_Met l y_Lw_read ws_Lw_read ({ frames := 16, cells := 3, slots := 18, locals := 500 }) (xw_Pl dC dI [(cI, .int), (cB, .byte), (cL, .long), (cZ, .boolean), (cR, .object "PatchStore$Repository")] [.ref h, .int p0, .ref o] [(h, .inr (0, [.ref ta, .ref rp, ps_sha, .ref sk, .ref it, ps_view, ps_text, ps_maker, ps_recording, .int 0, ps_lastFault])), (rp, .inl (cR, 8, .inr (.inr (.inr (.inr rf))))), (sk, .inr (9, [.ref b_y, .ref fr, sk_firstDependency, sk_firstChange, sk_dependencies, sk_hashes, sk_byHash, sk_leansOn, sk_leantBy, sk_changes, sk_lines, .int 0])), (b_y, .inl (cB, NB, .inl bf)), (fr, .inl (cI, NF, .inl ff)), (ta, .inl (cB, NT, .inl tf)), (it, .inr (3, [it_stock, it_changes, it_lines, it_sha, .ref fo, it_named, it_linesOfFile, it_nextFile, it_nextLine])), (fo, .inr (2, [.ref sk])), (o, .inl (cL, 1, .inr (.inl ov)))] sz) (xc_Q (S := Nat → Int64) (fun v (_ : Nat → Int64) => ((¬ ∃ n : Nat, n < 8 ∧ p0 = nI n) ∧ v = some (.int 1)) ∨ ((∃ n : Nat, n < 8 ∧ p0 = nI n) ∧ v = some (.int 2))) (fun _ _ => False) (fun u t => xw_B dC dI [(cI, .int), (cB, .byte), (cL, .long), (cZ, .boolean), (cR, .object "PatchStore$Repository")] (va_A [(h, .inr (0, [.ref ta, .ref rp, ps_sha, .ref sk, .ref it, ps_view, ps_text, ps_maker, ps_recording, .int 0, ps_lastFault])), (rp, .inl (cR, 8, .inr (.inr (.inr (.inr rf))))), (sk, .inr (9, [.ref b_y, .ref fr, sk_firstDependency, sk_firstChange, sk_dependencies, sk_hashes, sk_byHash, sk_leansOn, sk_leantBy, sk_changes, sk_lines, .int 0])), (b_y, .inl (cB, NB, .inl bf)), (fr, .inl (cI, NF, .inl ff)), (ta, .inl (cB, NT, .inl tf)), (it, .inr (3, [it_stock, it_changes, it_lines, it_sha, .ref fo, it_named, it_linesOfFile, it_nextFile, it_nextLine])), (fo, .inr (2, [.ref sk])), (o, .inl (cL, 1, .inr (.inl ov)))] sz) [(o, .inl (cL, 1, .inr (.inl u)))] t) (va_A [(h, .inr (0, [.ref ta, .ref rp, ps_sha, .ref sk, .ref it, ps_view, ps_text, ps_maker, ps_recording, .int 0, ps_lastFault])), (rp, .inl (cR, 8, .inr (.inr (.inr (.inr rf))))), (sk, .inr (9, [.ref b_y, .ref fr, sk_firstDependency, sk_firstChange, sk_dependencies, sk_hashes, sk_byHash, sk_leansOn, sk_leantBy, sk_changes, sk_lines, .int 0])), (b_y, .inl (cB, NB, .inl bf)), (fr, .inl (cI, NF, .inl ff)), (ta, .inl (cB, NT, .inl tf)), (it, .inr (3, [it_stock, it_changes, it_lines, it_sha, .ref fo, it_named, it_linesOfFile, it_nextFile, it_nextLine])), (fo, .inr (2, [.ref sk])), (o, .inl (cL, 1, .inr (.inl ov)))] sz)) 3 18 (va_A [(h, .inr (0, [.ref ta, .ref rp, ps_sha, .ref sk, .ref it, ps_view, ps_text, ps_maker, ps_recording, .int 0, ps_lastFault])), (rp, .inl (cR, 8, .inr (.inr (.inr (.inr rf))))), (sk, .inr (9, [.ref b_y, .ref fr, sk_firstDependency, sk_firstChange, sk_dependencies, sk_hashes, sk_byHash, sk_leansOn, sk_leantBy, sk_changes, sk_lines, .int 0])), (b_y, .inl (cB, NB, .inl bf)), (fr, .inl (cI, NF, .inl ff)), (ta, .inl (cB, NT, .inl tf)), (it, .inr (3, [it_stock, it_changes, it_lines, it_sha, .ref fo, it_named, it_linesOfFile, it_nextFile, it_nextLine])), (fo, .inr (2, [.ref sk])), (o, .inl (cL, 1, .inr (.inl ov)))] sz) := by
  refine xc_ofWH (cc := method_8_code) (maxL := 4) (ret := (Option.some Jvm.ClassFile.FieldType.int)) (hh := [((0 : Nat), (9 : Nat), (12 : Nat), (25 : Nat)), ((0 : Nat), (9 : Nat), (15 : Nat), (19 : Nat)), ((0 : Nat), (9 : Nat), (18 : Nat), (13 : Nat))]) (by decide) rfl ?_
  intro p e s m args below meth c s₁ B hml hrows hv
  obtain ⟨rfl, hsz, hP, hK, hD0, hN, hTh, hNc⟩ := hv
  have hx := B.exec
  have hb := B.bytes
  have hr := B.returns
  have hts0 := atoms_spec (ws := ws_Lw_read) B.pre
  have hts : ∀ w ∈ xg_1, w.before _ s = true := fun w h => hts0 w (List.mem_cons_of_mem _ h)
  have hown : s.vm.findClass "PatchStoreLaw" = some m.cls := findClass_of_methodNamed B.named
  have hlocks := B.notSynchronized
  subst hsz
  have hD := hD0.self (sz := s.heap.size)
  generalize hAe : va_A [(h, .inr (0, [.ref ta, .ref rp, ps_sha, .ref sk, .ref it, ps_view, ps_text, ps_maker, ps_recording, .int 0, ps_lastFault])), (rp, .inl (cR, 8, .inr (.inr (.inr (.inr rf))))), (sk, .inr (9, [.ref b_y, .ref fr, sk_firstDependency, sk_firstChange, sk_dependencies, sk_hashes, sk_byHash, sk_leansOn, sk_leantBy, sk_changes, sk_lines, .int 0])), (b_y, .inl (cB, NB, .inl bf)), (fr, .inl (cI, NF, .inl ff)), (ta, .inl (cB, NT, .inl tf)), (it, .inr (3, [it_stock, it_changes, it_lines, it_sha, .ref fo, it_named, it_linesOfFile, it_nextFile, it_nextLine])), (fo, .inr (2, [.ref sk])), (o, .inl (cL, 1, .inr (.inl ov)))] s.heap.size = A at hD hTh ⊢
  have hA : ∀ q : Nat, s.heap.size ≤ q → A q := fun q h => by rw [← hAe]; exact Or.inr h
  have hS : va_S A s.heap s.heap [] := va_S.rf
  have hl := lv_entry ([.ref h, .int p0, .ref o]) (n := 4) (Nat.le_of_ble_eq_true rfl)
  rw [lg_entry_eq]
  generalize (lg_sl ([.ref h, .int p0, .ref o]) ++ List.replicate (4 - (lg_sl ([.ref h, .int p0, .ref o])).length) Slot.unset).toArray = ls at hl ⊢
  have hl : lv_has ls 4 [(0, .ref h), (1, .int p0), (2, .ref o)] := hl
  refine lv_aload_n hx hb d_Lw_read_0 rfl (lv_at hl 2 rfl) ?_
  refine lv_iconst (v := 0) hx hb d_Lw_read_1 (by decide) ?_
  refine lv_aload_n hx hb d_Lw_read_2 rfl (lv_at hl 0 rfl) ?_
  refine lv_iload_n hx hb d_Lw_read_3 rfl (lv_at hl 1 rfl) ?_
  have hPc := hP.sub (ws' := [(h, .inr (0, [.ref ta, .ref rp, ps_sha, .ref sk, .ref it, ps_view, ps_text, ps_maker, ps_recording, .int 0, ps_lastFault])), (rp, .inl (cR, 8, .inr (.inr (.inr (.inr rf))))), (sk, .inr (9, [.ref b_y, .ref fr, sk_firstDependency, sk_firstChange, sk_dependencies, sk_hashes, sk_byHash, sk_leansOn, sk_leantBy, sk_changes, sk_lines, .int 0])), (b_y, .inl (cB, NB, .inl bf)), (fr, .inl (cI, NF, .inl ff)), (ta, .inl (cB, NT, .inl tf)), (it, .inr (3, [it_stock, it_changes, it_lines, it_sha, .ref fo, it_named, it_linesOfFile, it_nextFile, it_nextLine])), (fo, .inr (2, [.ref sk]))]) [0, 1, 2, 3, 4, 5, 6, 7] rfl
  have hDc := hD.sub (ws' := [(h, .inr (0, [.ref ta, .ref rp, ps_sha, .ref sk, .ref it, ps_view, ps_text, ps_maker, ps_recording, .int 0, ps_lastFault])), (rp, .inl (cR, 8, .inr (.inr (.inr (.inr rf))))), (sk, .inr (9, [.ref b_y, .ref fr, sk_firstDependency, sk_firstChange, sk_dependencies, sk_hashes, sk_byHash, sk_leansOn, sk_leantBy, sk_changes, sk_lines, .int 0])), (b_y, .inl (cB, NB, .inl bf)), (fr, .inl (cI, NF, .inl ff)), (ta, .inl (cB, NT, .inl tf)), (it, .inr (3, [it_stock, it_changes, it_lines, it_sha, .ref fo, it_named, it_linesOfFile, it_nextFile, it_nextLine])), (fo, .inr (2, [.ref sk]))]) [0, 1, 2, 3, 4, 5, 6, 7] (by decide) rfl
  have hFc := va_free (wc := [(h, .inr (0, [.ref ta, .ref rp, ps_sha, .ref sk, .ref it, ps_view, ps_text, ps_maker, ps_recording, .int 0, ps_lastFault])), (rp, .inl (cR, 8, .inr (.inr (.inr (.inr rf))))), (sk, .inr (9, [.ref b_y, .ref fr, sk_firstDependency, sk_firstChange, sk_dependencies, sk_hashes, sk_byHash, sk_leansOn, sk_leantBy, sk_changes, sk_lines, .int 0])), (b_y, .inl (cB, NB, .inl bf)), (fr, .inl (cI, NF, .inl ff)), (ta, .inl (cB, NT, .inl tf)), (it, .inr (3, [it_stock, it_changes, it_lines, it_sha, .ref fo, it_named, it_linesOfFile, it_nextFile, it_nextLine])), (fo, .inr (2, [.ref sk]))]) hD hS hA [0, 1, 2, 3, 4, 5, 6, 7] rfl
  refine xc_call (xc_runV (As := [.int p0]) (rest := [.int 0, .ref o]) (C := "PatchStore") ⟨hx, hb, hml, hown, hts⟩ (m_PS_read0 l dC dI cI cB cL cZ cR hlt h rp rr sk b_y fr ta it fo ps_sha ps_view ps_text ps_maker ps_recording ps_lastFault sk_firstDependency sk_firstChange sk_dependencies sk_hashes sk_byHash sk_leansOn sk_leantBy sk_changes sk_lines it_stock it_changes it_lines it_sha it_named it_linesOfFile it_nextFile it_nextLine NB NF NT bf ff tf g rf p0 s.heap.size hrf hrr_rr hff hNB hNT hNF hpn) (xc_bOf 1 hts (xg_in gw_1206) (xc_Is.code (hts _ gw_1206)) rfl rfl (hts _ gw_1) (by decide +kernel) ⟨Nat.le_of_ble_eq_true rfl, Nat.le_of_ble_eq_true rfl⟩) (hts _ gw_1203) (hts _ gw_1204) (hts _ gw_1205) ⟨xw_blindx, va_recv hK hPc (ci := 0) (q0 := 0) rfl rfl, fun U hU hW => ⟨rfl, by rw [hU], by rw [hU]; exact hPc, va_K.moved hW.alike hK, hDc.weaken (fun _ _ _ _ => trivial), xg_N.warm hW hN, by rw [hU]; exact ((hTh.kept (fun a h1 h2 => hS.2.1 a h1 h2)).narrow hFc).moved hW.alike⟩⟩ rfl rfl hl.1 rfl (lv_room (Nat.le_of_ble_eq_true rfl)) d_Lw_read_4 ⟨Nat.le_of_ble_eq_true rfl, Nat.le_of_ble_eq_true rfl⟩) hS (fun q _ h => hFc q h) hFc (fun v9 u t H1 locs ht hvm hw hB hz1 hk1 hS => ?_) (fun x9 C9 u t H1 locs ht hvm hw hex hB hz1 hk1 hS => ?_)
  · skip
    exact False.elim hw
  · skip
    have hP1 : va_P (dC, dI) classes [] H1 := fun k q h => by simp at h
    have hD1 : va_D (va_A [(h, .inr (0, [.ref ta, .ref rp, ps_sha, .ref sk, .ref it, ps_view, ps_text, ps_maker, ps_recording, .int 0, ps_lastFault])), (rp, .inl (cR, 8, .inr (.inr (.inr (.inr rf))))), (sk, .inr (9, [.ref b_y, .ref fr, sk_firstDependency, sk_firstChange, sk_dependencies, sk_hashes, sk_byHash, sk_leansOn, sk_leantBy, sk_changes, sk_lines, .int 0])), (b_y, .inl (cB, NB, .inl bf)), (fr, .inl (cI, NF, .inl ff)), (ta, .inl (cB, NT, .inl tf)), (it, .inr (3, [it_stock, it_changes, it_lines, it_sha, .ref fo, it_named, it_linesOfFile, it_nextFile, it_nextLine])), (fo, .inr (2, [.ref sk]))] s.heap.size) [] := ⟨fun i j q r h => by simp at h, fun k q h => by simp at h⟩
    obtain ⟨hP, hD⟩ := va_join (wr := [(o, .inl (cL, 1, .inr (.inl ov)))]) (w1 := []) hP hD [0, 1, 2, 3, 4, 5, 6, 7] [8] rfl rfl (by decide) (by decide) hk1 hFc hP1 hD1
    generalize H1 = H at hP hS ht ⊢
    have hP : va_P (dC, dI) classes [(o, .inl (cL, 1, .inr (.inl ov)))] H := hP
    have hD : va_D A [(o, .inl (cL, 1, .inr (.inl ov)))] := hD
    rcases hw with ⟨hb9, rfl⟩ | ⟨hb9, rfl⟩
    · skip
      refine xc_catch (tgt := 12) hown hrows ht hvm hex ⟨⟨by decide, by decide⟩, by decide, "java/util/NoSuchElementException", hts _ gw_695, Or.inl ⟨va_Nw.use rfl (hN _ gn_706), rfl⟩⟩ ?_
      refine lv_astore_n (lv' := [(3, .ref x9), (0, .ref h), (1, .int p0), (2, .ref o)]) hx hb d_Lw_read_12 rfl hl (by decide) rfl (fun ls hl => ?_)
      refine lv_iconst (v := 1) hx hb d_Lw_read_13 (by decide) ?_
      refine W.widen (k := 3) (n := 18) (Nat.le_of_ble_eq_true rfl) (Nat.le_of_ble_eq_true rfl) ?_
      exact xc_ret (W.iret (v := 1) hx hb hr (fun t ht hW => ⟨Or.inl ⟨_, ov, rfl, Or.inl ⟨hb9, rfl⟩, (by rw [ht]; exact hP), va_K.moved hW.alike hK, hD⟩, hS.F ht⟩) hS.2.2 d_Lw_read_14)
    · skip
      refine xc_catch (tgt := 15) hown hrows ht hvm hex ⟨⟨by decide, by decide⟩, by decide, "java/util/NoSuchElementException", hts _ gw_695, Or.inr ⟨hNc ("java/lang/IllegalArgumentException", "java/util/NoSuchElementException") (by decide), ⟨⟨by decide, by decide⟩, by decide, "java/lang/IllegalArgumentException", hts _ gw_672, Or.inl ⟨va_Nw.use rfl (hN _ gn_679), rfl⟩⟩⟩⟩ ?_
      refine lv_astore_n (lv' := [(3, .ref x9), (0, .ref h), (1, .int p0), (2, .ref o)]) hx hb d_Lw_read_15 rfl hl (by decide) rfl (fun ls hl => ?_)
      refine lv_iconst (v := 2) hx hb d_Lw_read_16 (by decide) ?_
      refine W.widen (k := 3) (n := 18) (Nat.le_of_ble_eq_true rfl) (Nat.le_of_ble_eq_true rfl) ?_
      exact xc_ret (W.iret (v := 2) hx hb hr (fun t ht hW => ⟨Or.inl ⟨_, ov, rfl, Or.inr ⟨hb9, rfl⟩, (by rw [ht]; exact hP), va_K.moved hW.alike hK, hD⟩, hS.F ht⟩) hS.2.2 d_Lw_read_17)
set_option maxHeartbeats 4000000 in
set_option maxRecDepth 100000 in
/-- the law's state -/
theorem m_L_state (l : Launch) (dC : Nat → ClassId) (dI : Nat → Nat → Nat) (cI cB cL cZ cR : ClassId) (hlt : xl_T l) (h rp rr sk sh sm wd bl dg o : Nat) (ps_tape ps_intake ps_view ps_text ps_maker ps_recording ps_tapeLength ps_lastFault rr_members rr_size sk_bytes sk_from sk_firstDependency sk_firstChange sk_dependencies sk_hashes sk_byHash sk_leansOn sk_leantBy sk_changes sk_lines fl0 tk0 : Value) (f0 w0 b0 g0 : Nat → Int32) (ov : Nat → Int64) (g : Nat → Nat) (rf : Nat → Option Nat) (p0 p1 : Int32) (sz : Nat) (hrf : ∀ k, k < 8 → rf k = some (g k)) (hrr_rr : ∀ n, n < 8 → p0 = nI n → g n = rr) : xc_Met l y_Lw_state ws_Lw_state ({ frames := 16, cells := 3, slots := 18, locals := 500 }) (xw_Pl dC dI [(cI, .int), (cB, .byte), (cL, .long), (cZ, .boolean), (cR, .object "PatchStore$Repository")] [.ref h, .int p0, .int p1, .ref o] [(h, .inr (0, [ps_tape, .ref rp, .ref sh, .ref sk, ps_intake, ps_view, ps_text, ps_maker, ps_recording, ps_tapeLength, ps_lastFault])), (rp, .inl (cR, 8, .inr (.inr (.inr (.inr rf))))), (rr, .inr (7, [rr_members, .ref dg, rr_size, .int 0, .int (-1)])), (sk, .inr (9, [sk_bytes, sk_from, sk_firstDependency, sk_firstChange, sk_dependencies, sk_hashes, sk_byHash, sk_leansOn, sk_leantBy, sk_changes, sk_lines, .int 0])), (sh, .inr (8, [.ref sm, .ref wd, .ref bl, fl0, tk0])), (sm, .inl (cI, 8, .inl f0)), (wd, .inl (cI, 64, .inl w0)), (bl, .inl (cB, 64, .inl b0)), (dg, .inl (cB, 32, .inl g0)), (o, .inl (cL, 1, .inr (.inl ov)))] sz) (xc_Q (S := Nat → Int64) (fun v (u : Nat → Int64) => ((¬ ∃ n : Nat, n < 8 ∧ p0 = nI n) ∧ v = some (.int 1)) ∨ ((∃ n : Nat, n < 8 ∧ p0 = nI n) ∧ (¬ ∃ n : Nat, n < 32 ∧ p1 = nI n) ∧ v = some (.int 2)) ∨ ((∃ n : Nat, n < 8 ∧ p0 = nI n) ∧ ∃ n : Nat, n < 32 ∧ p1 = nI n ∧ v = some (.int 0) ∧ u 0 = (sh_outb st_0 n &&& 255).toInt64)) (fun _ _ => False) (fun u t => xw_B dC dI [(cI, .int), (cB, .byte), (cL, .long), (cZ, .boolean), (cR, .object "PatchStore$Repository")] (va_A [(h, .inr (0, [ps_tape, .ref rp, .ref sh, .ref sk, ps_intake, ps_view, ps_text, ps_maker, ps_recording, ps_tapeLength, ps_lastFault])), (rp, .inl (cR, 8, .inr (.inr (.inr (.inr rf))))), (rr, .inr (7, [rr_members, .ref dg, rr_size, .int 0, .int (-1)])), (sk, .inr (9, [sk_bytes, sk_from, sk_firstDependency, sk_firstChange, sk_dependencies, sk_hashes, sk_byHash, sk_leansOn, sk_leantBy, sk_changes, sk_lines, .int 0])), (sh, .inr (8, [.ref sm, .ref wd, .ref bl, fl0, tk0])), (sm, .inl (cI, 8, .inl f0)), (wd, .inl (cI, 64, .inl w0)), (bl, .inl (cB, 64, .inl b0)), (dg, .inl (cB, 32, .inl g0)), (o, .inl (cL, 1, .inr (.inl ov)))] sz) [(o, .inl (cL, 1, .inr (.inl u)))] t) (va_A [(h, .inr (0, [ps_tape, .ref rp, .ref sh, .ref sk, ps_intake, ps_view, ps_text, ps_maker, ps_recording, ps_tapeLength, ps_lastFault])), (rp, .inl (cR, 8, .inr (.inr (.inr (.inr rf))))), (rr, .inr (7, [rr_members, .ref dg, rr_size, .int 0, .int (-1)])), (sk, .inr (9, [sk_bytes, sk_from, sk_firstDependency, sk_firstChange, sk_dependencies, sk_hashes, sk_byHash, sk_leansOn, sk_leantBy, sk_changes, sk_lines, .int 0])), (sh, .inr (8, [.ref sm, .ref wd, .ref bl, fl0, tk0])), (sm, .inl (cI, 8, .inl f0)), (wd, .inl (cI, 64, .inl w0)), (bl, .inl (cB, 64, .inl b0)), (dg, .inl (cB, 32, .inl g0)), (o, .inl (cL, 1, .inr (.inl ov)))] sz)) 3 18 (va_A [(h, .inr (0, [ps_tape, .ref rp, .ref sh, .ref sk, ps_intake, ps_view, ps_text, ps_maker, ps_recording, ps_tapeLength, ps_lastFault])), (rp, .inl (cR, 8, .inr (.inr (.inr (.inr rf))))), (rr, .inr (7, [rr_members, .ref dg, rr_size, .int 0, .int (-1)])), (sk, .inr (9, [sk_bytes, sk_from, sk_firstDependency, sk_firstChange, sk_dependencies, sk_hashes, sk_byHash, sk_leansOn, sk_leantBy, sk_changes, sk_lines, .int 0])), (sh, .inr (8, [.ref sm, .ref wd, .ref bl, fl0, tk0])), (sm, .inl (cI, 8, .inl f0)), (wd, .inl (cI, 64, .inl w0)), (bl, .inl (cB, 64, .inl b0)), (dg, .inl (cB, 32, .inl g0)), (o, .inl (cL, 1, .inr (.inl ov)))] sz) := by
  refine xc_ofWH (cc := method_14_code) (maxL := 5) (ret := (Option.some Jvm.ClassFile.FieldType.int)) (hh := [((0 : Nat), (10 : Nat), (13 : Nat), (25 : Nat)), ((0 : Nat), (10 : Nat), (17 : Nat), (54 : Nat))]) (by decide) rfl ?_
  intro p e s m args below meth c s₁ B hml hrows hv
  obtain ⟨rfl, hsz, hP, hK, hD0, hN, hTh, hNc⟩ := hv
  have hx := B.exec
  have hb := B.bytes
  have hr := B.returns
  have hts0 := atoms_spec (ws := ws_Lw_state) B.pre
  have hts : ∀ w ∈ xg_1, w.before _ s = true := fun w h => hts0 w (List.mem_cons_of_mem _ h)
  have hown : s.vm.findClass "PatchStoreLaw" = some m.cls := findClass_of_methodNamed B.named
  have hlocks := B.notSynchronized
  subst hsz
  have hD := hD0.self (sz := s.heap.size)
  generalize hAe : va_A [(h, .inr (0, [ps_tape, .ref rp, .ref sh, .ref sk, ps_intake, ps_view, ps_text, ps_maker, ps_recording, ps_tapeLength, ps_lastFault])), (rp, .inl (cR, 8, .inr (.inr (.inr (.inr rf))))), (rr, .inr (7, [rr_members, .ref dg, rr_size, .int 0, .int (-1)])), (sk, .inr (9, [sk_bytes, sk_from, sk_firstDependency, sk_firstChange, sk_dependencies, sk_hashes, sk_byHash, sk_leansOn, sk_leantBy, sk_changes, sk_lines, .int 0])), (sh, .inr (8, [.ref sm, .ref wd, .ref bl, fl0, tk0])), (sm, .inl (cI, 8, .inl f0)), (wd, .inl (cI, 64, .inl w0)), (bl, .inl (cB, 64, .inl b0)), (dg, .inl (cB, 32, .inl g0)), (o, .inl (cL, 1, .inr (.inl ov)))] s.heap.size = A at hD hTh ⊢
  have hA : ∀ q : Nat, s.heap.size ≤ q → A q := fun q h => by rw [← hAe]; exact Or.inr h
  have hS : va_S A s.heap s.heap [] := va_S.rf
  have hl := lv_entry ([.ref h, .int p0, .int p1, .ref o]) (n := 5) (Nat.le_of_ble_eq_true rfl)
  rw [lg_entry_eq]
  generalize (lg_sl ([.ref h, .int p0, .int p1, .ref o]) ++ List.replicate (5 - (lg_sl ([.ref h, .int p0, .int p1, .ref o])).length) Slot.unset).toArray = ls at hl ⊢
  have hl : lv_has ls 5 [(0, .ref h), (1, .int p0), (2, .int p1), (3, .ref o)] := hl
  refine lv_aload_n hx hb d_Lw_state_0 rfl (lv_at hl 3 rfl) ?_
  refine lv_iconst (v := 0) hx hb d_Lw_state_1 (by decide) ?_
  refine lv_aload_n hx hb d_Lw_state_2 rfl (lv_at hl 0 rfl) ?_
  refine lv_iload_n hx hb d_Lw_state_3 rfl (lv_at hl 1 rfl) ?_
  refine lv_iload_n hx hb d_Lw_state_4 rfl (lv_at hl 2 rfl) ?_
  have hPc := hP.sub (ws' := [(h, .inr (0, [ps_tape, .ref rp, .ref sh, .ref sk, ps_intake, ps_view, ps_text, ps_maker, ps_recording, ps_tapeLength, ps_lastFault])), (rp, .inl (cR, 8, .inr (.inr (.inr (.inr rf))))), (rr, .inr (7, [rr_members, .ref dg, rr_size, .int 0, .int (-1)])), (sk, .inr (9, [sk_bytes, sk_from, sk_firstDependency, sk_firstChange, sk_dependencies, sk_hashes, sk_byHash, sk_leansOn, sk_leantBy, sk_changes, sk_lines, .int 0])), (sh, .inr (8, [.ref sm, .ref wd, .ref bl, fl0, tk0])), (sm, .inl (cI, 8, .inl f0)), (wd, .inl (cI, 64, .inl w0)), (bl, .inl (cB, 64, .inl b0)), (dg, .inl (cB, 32, .inl g0))]) [0, 1, 2, 3, 4, 5, 6, 7, 8] rfl
  have hDc := hD.sub (ws' := [(h, .inr (0, [ps_tape, .ref rp, .ref sh, .ref sk, ps_intake, ps_view, ps_text, ps_maker, ps_recording, ps_tapeLength, ps_lastFault])), (rp, .inl (cR, 8, .inr (.inr (.inr (.inr rf))))), (rr, .inr (7, [rr_members, .ref dg, rr_size, .int 0, .int (-1)])), (sk, .inr (9, [sk_bytes, sk_from, sk_firstDependency, sk_firstChange, sk_dependencies, sk_hashes, sk_byHash, sk_leansOn, sk_leantBy, sk_changes, sk_lines, .int 0])), (sh, .inr (8, [.ref sm, .ref wd, .ref bl, fl0, tk0])), (sm, .inl (cI, 8, .inl f0)), (wd, .inl (cI, 64, .inl w0)), (bl, .inl (cB, 64, .inl b0)), (dg, .inl (cB, 32, .inl g0))]) [0, 1, 2, 3, 4, 5, 6, 7, 8] (by decide) rfl
  have hFc := va_free (wc := [(h, .inr (0, [ps_tape, .ref rp, .ref sh, .ref sk, ps_intake, ps_view, ps_text, ps_maker, ps_recording, ps_tapeLength, ps_lastFault])), (rp, .inl (cR, 8, .inr (.inr (.inr (.inr rf))))), (rr, .inr (7, [rr_members, .ref dg, rr_size, .int 0, .int (-1)])), (sk, .inr (9, [sk_bytes, sk_from, sk_firstDependency, sk_firstChange, sk_dependencies, sk_hashes, sk_byHash, sk_leansOn, sk_leantBy, sk_changes, sk_lines, .int 0])), (sh, .inr (8, [.ref sm, .ref wd, .ref bl, fl0, tk0])), (sm, .inl (cI, 8, .inl f0)), (wd, .inl (cI, 64, .inl w0)), (bl, .inl (cB, 64, .inl b0)), (dg, .inl (cB, 32, .inl g0))]) hD hS hA [0, 1, 2, 3, 4, 5, 6, 7, 8] rfl
  refine xc_call (xc_runV (As := [.int p0, .int p1]) (rest := [.int 0, .ref o]) (C := "PatchStore") ⟨hx, hb, hml, hown, hts⟩ (m_PS_state0 l dC dI cI cB cL cZ cR hlt h rp rr sk sh sm wd bl dg ps_tape ps_intake ps_view ps_text ps_maker ps_recording ps_tapeLength ps_lastFault rr_members rr_size sk_bytes sk_from sk_firstDependency sk_firstChange sk_dependencies sk_hashes sk_byHash sk_leansOn sk_leantBy sk_changes sk_lines fl0 tk0 f0 w0 b0 g0 g rf p0 p1 s.heap.size hrf hrr_rr) (xc_bOf 2 hts (xg_in gw_1301) (xc_Is.code (hts _ gw_1301)) rfl rfl (hts _ gw_1) (by decide +kernel) ⟨Nat.le_of_ble_eq_true rfl, Nat.le_of_ble_eq_true rfl⟩) (hts _ gw_1298) (hts _ gw_1299) (hts _ gw_1300) ⟨xw_blindx, va_recv hK hPc (ci := 0) (q0 := 0) rfl rfl, fun U hU hW => ⟨rfl, by rw [hU], by rw [hU]; exact hPc, va_K.moved hW.alike hK, hDc.weaken (fun _ _ _ _ => trivial), xg_N.warm hW hN, by rw [hU]; exact ((hTh.kept (fun a h1 h2 => hS.2.1 a h1 h2)).narrow hFc).moved hW.alike⟩⟩ rfl rfl hl.1 rfl (lv_room (Nat.le_of_ble_eq_true rfl)) d_Lw_state_5 ⟨Nat.le_of_ble_eq_true rfl, Nat.le_of_ble_eq_true rfl⟩) hS (fun q _ h => hFc q h) hFc (fun v9 u t H1 locs ht hvm hw hB hz1 hk1 hS => ?_) (fun x9 C9 u t H1 locs ht hvm hw hex hB hz1 hk1 hS => ?_)
  · obtain ⟨g1, n1, hn1, g2, rfl⟩ := hw
    have hP1 : va_P (dC, dI) classes [] H1 := fun k q h => by simp at h
    have hD1 : va_D (va_A [(h, .inr (0, [ps_tape, .ref rp, .ref sh, .ref sk, ps_intake, ps_view, ps_text, ps_maker, ps_recording, ps_tapeLength, ps_lastFault])), (rp, .inl (cR, 8, .inr (.inr (.inr (.inr rf))))), (rr, .inr (7, [rr_members, .ref dg, rr_size, .int 0, .int (-1)])), (sk, .inr (9, [sk_bytes, sk_from, sk_firstDependency, sk_firstChange, sk_dependencies, sk_hashes, sk_byHash, sk_leansOn, sk_leantBy, sk_changes, sk_lines, .int 0])), (sh, .inr (8, [.ref sm, .ref wd, .ref bl, fl0, tk0])), (sm, .inl (cI, 8, .inl f0)), (wd, .inl (cI, 64, .inl w0)), (bl, .inl (cB, 64, .inl b0)), (dg, .inl (cB, 32, .inl g0))] s.heap.size) [] := ⟨fun i j q r h => by simp at h, fun k q h => by simp at h⟩
    obtain ⟨hP, hD⟩ := va_join (wr := [(o, .inl (cL, 1, .inr (.inl ov)))]) (w1 := []) hP hD [0, 1, 2, 3, 4, 5, 6, 7, 8] [9] rfl rfl (by decide) (by decide) hk1 hFc hP1 hD1
    generalize H1 = H at hP hS ht ⊢
    have hP : va_P (dC, dI) classes [(o, .inl (cL, 1, .inr (.inl ov)))] H := hP
    have hD : va_D A [(o, .inl (cL, 1, .inr (.inl ov)))] := hD
    refine W.eq (g2 := F0 m 8 ls [.int (sh_outb st_0 n1 &&& 255), .int 0, .ref o]) rfl ?_
    refine W.widen (k := 2) (n := 12) (Nat.le_of_ble_eq_true rfl) (Nat.le_of_ble_eq_true rfl) ?_
    refine lv_i2l hx hb d_Lw_state_8 rfl ?_
    refine va_last hx hb hK hP hD hS 0 2 rfl rfl (vp_in_nI (n := 0) (by omega) (by omega)) d_Lw_state_9 (fun H locs hP hD hS => ?_)
    rw [show (0 : Int32).toNatClampNeg = 0 from rfl] at hP hD
    have hP : va_P (dC, dI) classes [(o, .inl (cL, 1, .inr (.inl (vp_updL ov 0 ((sh_outb st_0 n1 &&& 255 : Int32).toInt64)))))] H := hP
    have hD : va_D A [(o, .inl (cL, 1, .inr (.inl (vp_updL ov 0 ((sh_outb st_0 n1 &&& 255 : Int32).toInt64)))))] := hD
    refine lv_goto (tgt := 21) hx hb d_Lw_state_10 (by decide) ?_
    refine lv_iconst (v := 0) hx hb d_Lw_state_21 (by decide) ?_
    refine W.widen (k := 3) (n := 18) (Nat.le_of_ble_eq_true rfl) (Nat.le_of_ble_eq_true rfl) ?_
    exact xc_ret (W.iret (v := 0) hx hb hr (fun t ht hW => ⟨Or.inl ⟨_, vp_updL ov 0 ((sh_outb st_0 n1 &&& 255 : Int32).toInt64), rfl, Or.inr (Or.inr ⟨g1, n1, hn1, g2, rfl, rfl⟩), (by rw [ht]; exact hP), va_K.moved hW.alike hK, hD⟩, hS.F ht⟩) hS.2.2 d_Lw_state_22)
  · skip
    have hP1 : va_P (dC, dI) classes [] H1 := fun k q h => by simp at h
    have hD1 : va_D (va_A [(h, .inr (0, [ps_tape, .ref rp, .ref sh, .ref sk, ps_intake, ps_view, ps_text, ps_maker, ps_recording, ps_tapeLength, ps_lastFault])), (rp, .inl (cR, 8, .inr (.inr (.inr (.inr rf))))), (rr, .inr (7, [rr_members, .ref dg, rr_size, .int 0, .int (-1)])), (sk, .inr (9, [sk_bytes, sk_from, sk_firstDependency, sk_firstChange, sk_dependencies, sk_hashes, sk_byHash, sk_leansOn, sk_leantBy, sk_changes, sk_lines, .int 0])), (sh, .inr (8, [.ref sm, .ref wd, .ref bl, fl0, tk0])), (sm, .inl (cI, 8, .inl f0)), (wd, .inl (cI, 64, .inl w0)), (bl, .inl (cB, 64, .inl b0)), (dg, .inl (cB, 32, .inl g0))] s.heap.size) [] := ⟨fun i j q r h => by simp at h, fun k q h => by simp at h⟩
    obtain ⟨hP, hD⟩ := va_join (wr := [(o, .inl (cL, 1, .inr (.inl ov)))]) (w1 := []) hP hD [0, 1, 2, 3, 4, 5, 6, 7, 8] [9] rfl rfl (by decide) (by decide) hk1 hFc hP1 hD1
    generalize H1 = H at hP hS ht ⊢
    have hP : va_P (dC, dI) classes [(o, .inl (cL, 1, .inr (.inl ov)))] H := hP
    have hD : va_D A [(o, .inl (cL, 1, .inr (.inl ov)))] := hD
    rcases hw with ⟨hb9, rfl⟩ | ⟨hb9, hb8, rfl⟩
    · skip
      refine xc_catch (tgt := 13) hown hrows ht hvm hex ⟨⟨by decide, by decide⟩, by decide, "java/util/NoSuchElementException", hts _ gw_695, Or.inl ⟨va_Nw.use rfl (hN _ gn_706), rfl⟩⟩ ?_
      refine lv_astore (lv' := [(4, .ref x9), (0, .ref h), (1, .int p0), (2, .int p1), (3, .ref o)]) hx hb d_Lw_state_13 hl (by decide) rfl (fun ls hl => ?_)
      refine lv_iconst (v := 1) hx hb d_Lw_state_15 (by decide) ?_
      refine W.widen (k := 3) (n := 18) (Nat.le_of_ble_eq_true rfl) (Nat.le_of_ble_eq_true rfl) ?_
      exact xc_ret (W.iret (v := 1) hx hb hr (fun t ht hW => ⟨Or.inl ⟨_, ov, rfl, Or.inl ⟨hb9, rfl⟩, (by rw [ht]; exact hP), va_K.moved hW.alike hK, hD⟩, hS.F ht⟩) hS.2.2 d_Lw_state_16)
    · skip
      refine xc_catch (tgt := 17) hown hrows ht hvm hex ⟨⟨by decide, by decide⟩, by decide, "java/util/NoSuchElementException", hts _ gw_695, Or.inr ⟨hNc ("java/lang/IndexOutOfBoundsException", "java/util/NoSuchElementException") (by decide), ⟨⟨by decide, by decide⟩, by decide, "java/lang/IndexOutOfBoundsException", hts _ gw_1271, Or.inl ⟨va_Nw.use rfl (hN _ gn_1282), rfl⟩⟩⟩⟩ ?_
      refine lv_astore (lv' := [(4, .ref x9), (0, .ref h), (1, .int p0), (2, .int p1), (3, .ref o)]) hx hb d_Lw_state_17 hl (by decide) rfl (fun ls hl => ?_)
      refine lv_iconst (v := 2) hx hb d_Lw_state_19 (by decide) ?_
      refine W.widen (k := 3) (n := 18) (Nat.le_of_ble_eq_true rfl) (Nat.le_of_ble_eq_true rfl) ?_
      exact xc_ret (W.iret (v := 2) hx hb hr (fun t ht hW => ⟨Or.inl ⟨_, ov, rfl, Or.inr (Or.inl ⟨hb9, hb8, rfl⟩), (by rw [ht]; exact hP), va_K.moved hW.alike hK, hD⟩, hS.F ht⟩) hS.2.2 d_Lw_state_20)
set_option maxHeartbeats 4000000 in
set_option maxRecDepth 100000 in
/-- the law's about -/
theorem m_L_about (l : Launch) (dC : Nat → ClassId) (dI : Nat → Nat → Nat) (cI cB cL cZ cR : ClassId) (hlt : xl_T l) (h rp vw no rr sk hd sg o : Nat) (ps_tape ps_sha ps_stock ps_intake ps_text ps_maker ps_recording ps_tapeLength ps_lastFault vw_files vw_namings vw_changes vw_over vw_nexts rr_members rr_digest rr_digestVersion sk_bytes sk_from sk_firstDependency sk_firstChange sk_dependencies sk_hashes sk_byHash sk_leansOn sk_leantBy sk_changes sk_lines : Value) (ver : Int32) (f0 f1 f2 : Nat → Int32) (ov : Nat → Int64) (g : Nat → Nat) (rf : Nat → Option Nat) (p0 p1 : Int32) (sz : Nat) (hrf : ∀ k, k < 8 → rf k = some (g k)) (hrr_rr : ∀ n, n < 8 → p0 = nI n → g n = rr) : xc_Met l y_Lw_about ws_Lw_about ({ frames := 16, cells := 3, slots := 18, locals := 500 }) (xw_Pl dC dI [(cI, .int), (cB, .byte), (cL, .long), (cZ, .boolean), (cR, .object "PatchStore$Repository")] [.ref h, .int p0, .int p1, .ref o] [(h, .inr (0, [ps_tape, .ref rp, ps_sha, ps_stock, ps_intake, .ref vw, ps_text, ps_maker, ps_recording, ps_tapeLength, ps_lastFault])), (rp, .inl (cR, 8, .inr (.inr (.inr (.inr rf))))), (vw, .inr (11, [vw_files, .ref no, vw_namings, .int 0, .int 0, .ref sk, vw_changes, .null, .int 0, vw_over, .int 0, .ref hd, vw_nexts, .ref sg])), (no, .inl (cI, 200, .inl f0)), (rr, .inr (7, [rr_members, rr_digest, .int 0, .int ver, rr_digestVersion])), (sk, .inr (9, [sk_bytes, sk_from, sk_firstDependency, sk_firstChange, sk_dependencies, sk_hashes, sk_byHash, sk_leansOn, sk_leantBy, sk_changes, sk_lines, .int 0])), (hd, .inl (cI, 256, .inl f1)), (sg, .inl (cI, 200, .inl f2)), (o, .inl (cL, 1, .inr (.inl ov)))] sz) (xc_Q (S := Nat → Int64) (fun v (u : Nat → Int64) => ((¬ ∃ n : Nat, n < 8 ∧ p0 = nI n) ∧ v = some (.int 1)) ∨ ((∃ n : Nat, n < 8 ∧ p0 = nI n) ∧ (¬ ∃ n : Nat, n < 4 ∧ p1 = nI n) ∧ v = some (.int 2)) ∨ ((∃ n : Nat, n < 8 ∧ p0 = nI n) ∧ (∃ n : Nat, n < 4 ∧ p1 = nI n) ∧ v = some (.int 0) ∧ u 0 = 0)) (fun _ _ => False) (fun u t => xw_B dC dI [(cI, .int), (cB, .byte), (cL, .long), (cZ, .boolean), (cR, .object "PatchStore$Repository")] (va_A [(h, .inr (0, [ps_tape, .ref rp, ps_sha, ps_stock, ps_intake, .ref vw, ps_text, ps_maker, ps_recording, ps_tapeLength, ps_lastFault])), (rp, .inl (cR, 8, .inr (.inr (.inr (.inr rf))))), (vw, .inr (11, [vw_files, .ref no, vw_namings, .int 0, .int 0, .ref sk, vw_changes, .null, .int 0, vw_over, .int 0, .ref hd, vw_nexts, .ref sg])), (no, .inl (cI, 200, .inl f0)), (rr, .inr (7, [rr_members, rr_digest, .int 0, .int ver, rr_digestVersion])), (sk, .inr (9, [sk_bytes, sk_from, sk_firstDependency, sk_firstChange, sk_dependencies, sk_hashes, sk_byHash, sk_leansOn, sk_leantBy, sk_changes, sk_lines, .int 0])), (hd, .inl (cI, 256, .inl f1)), (sg, .inl (cI, 200, .inl f2)), (o, .inl (cL, 1, .inr (.inl ov)))] sz) [(o, .inl (cL, 1, .inr (.inl u)))] t) (va_A [(h, .inr (0, [ps_tape, .ref rp, ps_sha, ps_stock, ps_intake, .ref vw, ps_text, ps_maker, ps_recording, ps_tapeLength, ps_lastFault])), (rp, .inl (cR, 8, .inr (.inr (.inr (.inr rf))))), (vw, .inr (11, [vw_files, .ref no, vw_namings, .int 0, .int 0, .ref sk, vw_changes, .null, .int 0, vw_over, .int 0, .ref hd, vw_nexts, .ref sg])), (no, .inl (cI, 200, .inl f0)), (rr, .inr (7, [rr_members, rr_digest, .int 0, .int ver, rr_digestVersion])), (sk, .inr (9, [sk_bytes, sk_from, sk_firstDependency, sk_firstChange, sk_dependencies, sk_hashes, sk_byHash, sk_leansOn, sk_leantBy, sk_changes, sk_lines, .int 0])), (hd, .inl (cI, 256, .inl f1)), (sg, .inl (cI, 200, .inl f2)), (o, .inl (cL, 1, .inr (.inl ov)))] sz)) 3 18 (va_A [(h, .inr (0, [ps_tape, .ref rp, ps_sha, ps_stock, ps_intake, .ref vw, ps_text, ps_maker, ps_recording, ps_tapeLength, ps_lastFault])), (rp, .inl (cR, 8, .inr (.inr (.inr (.inr rf))))), (vw, .inr (11, [vw_files, .ref no, vw_namings, .int 0, .int 0, .ref sk, vw_changes, .null, .int 0, vw_over, .int 0, .ref hd, vw_nexts, .ref sg])), (no, .inl (cI, 200, .inl f0)), (rr, .inr (7, [rr_members, rr_digest, .int 0, .int ver, rr_digestVersion])), (sk, .inr (9, [sk_bytes, sk_from, sk_firstDependency, sk_firstChange, sk_dependencies, sk_hashes, sk_byHash, sk_leansOn, sk_leantBy, sk_changes, sk_lines, .int 0])), (hd, .inl (cI, 256, .inl f1)), (sg, .inl (cI, 200, .inl f2)), (o, .inl (cL, 1, .inr (.inl ov)))] sz) := by
  refine xc_ofWH (cc := method_15_code) (maxL := 5) (ret := (Option.some Jvm.ClassFile.FieldType.int)) (hh := [((0 : Nat), (10 : Nat), (13 : Nat), (25 : Nat)), ((0 : Nat), (10 : Nat), (17 : Nat), (19 : Nat))]) (by decide) rfl ?_
  intro p e s m args below meth c s₁ B hml hrows hv
  obtain ⟨rfl, hsz, hP, hK, hD0, hN, hTh, hNc⟩ := hv
  have hx := B.exec
  have hb := B.bytes
  have hr := B.returns
  have hts0 := atoms_spec (ws := ws_Lw_about) B.pre
  have hts : ∀ w ∈ xg_1, w.before _ s = true := fun w h => hts0 w (List.mem_cons_of_mem _ h)
  have hown : s.vm.findClass "PatchStoreLaw" = some m.cls := findClass_of_methodNamed B.named
  have hlocks := B.notSynchronized
  subst hsz
  have hD := hD0.self (sz := s.heap.size)
  generalize hAe : va_A [(h, .inr (0, [ps_tape, .ref rp, ps_sha, ps_stock, ps_intake, .ref vw, ps_text, ps_maker, ps_recording, ps_tapeLength, ps_lastFault])), (rp, .inl (cR, 8, .inr (.inr (.inr (.inr rf))))), (vw, .inr (11, [vw_files, .ref no, vw_namings, .int 0, .int 0, .ref sk, vw_changes, .null, .int 0, vw_over, .int 0, .ref hd, vw_nexts, .ref sg])), (no, .inl (cI, 200, .inl f0)), (rr, .inr (7, [rr_members, rr_digest, .int 0, .int ver, rr_digestVersion])), (sk, .inr (9, [sk_bytes, sk_from, sk_firstDependency, sk_firstChange, sk_dependencies, sk_hashes, sk_byHash, sk_leansOn, sk_leantBy, sk_changes, sk_lines, .int 0])), (hd, .inl (cI, 256, .inl f1)), (sg, .inl (cI, 200, .inl f2)), (o, .inl (cL, 1, .inr (.inl ov)))] s.heap.size = A at hD hTh ⊢
  have hA : ∀ q : Nat, s.heap.size ≤ q → A q := fun q h => by rw [← hAe]; exact Or.inr h
  have hS : va_S A s.heap s.heap [] := va_S.rf
  have hl := lv_entry ([.ref h, .int p0, .int p1, .ref o]) (n := 5) (Nat.le_of_ble_eq_true rfl)
  rw [lg_entry_eq]
  generalize (lg_sl ([.ref h, .int p0, .int p1, .ref o]) ++ List.replicate (5 - (lg_sl ([.ref h, .int p0, .int p1, .ref o])).length) Slot.unset).toArray = ls at hl ⊢
  have hl : lv_has ls 5 [(0, .ref h), (1, .int p0), (2, .int p1), (3, .ref o)] := hl
  refine lv_aload_n hx hb d_Lw_about_0 rfl (lv_at hl 3 rfl) ?_
  refine lv_iconst (v := 0) hx hb d_Lw_about_1 (by decide) ?_
  refine lv_aload_n hx hb d_Lw_about_2 rfl (lv_at hl 0 rfl) ?_
  refine lv_iload_n hx hb d_Lw_about_3 rfl (lv_at hl 1 rfl) ?_
  refine lv_iload_n hx hb d_Lw_about_4 rfl (lv_at hl 2 rfl) ?_
  have hPc := hP.sub (ws' := [(h, .inr (0, [ps_tape, .ref rp, ps_sha, ps_stock, ps_intake, .ref vw, ps_text, ps_maker, ps_recording, ps_tapeLength, ps_lastFault])), (rp, .inl (cR, 8, .inr (.inr (.inr (.inr rf))))), (vw, .inr (11, [vw_files, .ref no, vw_namings, .int 0, .int 0, .ref sk, vw_changes, .null, .int 0, vw_over, .int 0, .ref hd, vw_nexts, .ref sg])), (no, .inl (cI, 200, .inl f0)), (rr, .inr (7, [rr_members, rr_digest, .int 0, .int ver, rr_digestVersion])), (sk, .inr (9, [sk_bytes, sk_from, sk_firstDependency, sk_firstChange, sk_dependencies, sk_hashes, sk_byHash, sk_leansOn, sk_leantBy, sk_changes, sk_lines, .int 0])), (hd, .inl (cI, 256, .inl f1)), (sg, .inl (cI, 200, .inl f2))]) [0, 1, 2, 3, 4, 5, 6, 7] rfl
  have hDc := hD.sub (ws' := [(h, .inr (0, [ps_tape, .ref rp, ps_sha, ps_stock, ps_intake, .ref vw, ps_text, ps_maker, ps_recording, ps_tapeLength, ps_lastFault])), (rp, .inl (cR, 8, .inr (.inr (.inr (.inr rf))))), (vw, .inr (11, [vw_files, .ref no, vw_namings, .int 0, .int 0, .ref sk, vw_changes, .null, .int 0, vw_over, .int 0, .ref hd, vw_nexts, .ref sg])), (no, .inl (cI, 200, .inl f0)), (rr, .inr (7, [rr_members, rr_digest, .int 0, .int ver, rr_digestVersion])), (sk, .inr (9, [sk_bytes, sk_from, sk_firstDependency, sk_firstChange, sk_dependencies, sk_hashes, sk_byHash, sk_leansOn, sk_leantBy, sk_changes, sk_lines, .int 0])), (hd, .inl (cI, 256, .inl f1)), (sg, .inl (cI, 200, .inl f2))]) [0, 1, 2, 3, 4, 5, 6, 7] (by decide) rfl
  have hFc := va_free (wc := [(h, .inr (0, [ps_tape, .ref rp, ps_sha, ps_stock, ps_intake, .ref vw, ps_text, ps_maker, ps_recording, ps_tapeLength, ps_lastFault])), (rp, .inl (cR, 8, .inr (.inr (.inr (.inr rf))))), (vw, .inr (11, [vw_files, .ref no, vw_namings, .int 0, .int 0, .ref sk, vw_changes, .null, .int 0, vw_over, .int 0, .ref hd, vw_nexts, .ref sg])), (no, .inl (cI, 200, .inl f0)), (rr, .inr (7, [rr_members, rr_digest, .int 0, .int ver, rr_digestVersion])), (sk, .inr (9, [sk_bytes, sk_from, sk_firstDependency, sk_firstChange, sk_dependencies, sk_hashes, sk_byHash, sk_leansOn, sk_leantBy, sk_changes, sk_lines, .int 0])), (hd, .inl (cI, 256, .inl f1)), (sg, .inl (cI, 200, .inl f2))]) hD hS hA [0, 1, 2, 3, 4, 5, 6, 7] rfl
  refine xc_call (xc_runV (As := [.int p0, .int p1]) (rest := [.int 0, .ref o]) (C := "PatchStore") ⟨hx, hb, hml, hown, hts⟩ (m_PS_about0 l dC dI cI cB cL cZ cR hlt h rp vw no rr sk hd sg ps_tape ps_sha ps_stock ps_intake ps_text ps_maker ps_recording ps_tapeLength ps_lastFault vw_files vw_namings vw_changes vw_over vw_nexts rr_members rr_digest rr_digestVersion sk_bytes sk_from sk_firstDependency sk_firstChange sk_dependencies sk_hashes sk_byHash sk_leansOn sk_leantBy sk_changes sk_lines ver f0 f1 f2 g rf p0 p1 s.heap.size hrf hrr_rr) (xc_bOf 2 hts (xg_in gw_1315) (xc_Is.code (hts _ gw_1315)) rfl rfl (hts _ gw_1) (by decide +kernel) ⟨Nat.le_of_ble_eq_true rfl, Nat.le_of_ble_eq_true rfl⟩) (hts _ gw_1312) (hts _ gw_1313) (hts _ gw_1314) ⟨xw_blindx, va_recv hK hPc (ci := 0) (q0 := 0) rfl rfl, fun U hU hW => ⟨rfl, by rw [hU], by rw [hU]; exact hPc, va_K.moved hW.alike hK, hDc.weaken (fun _ _ _ _ => trivial), xg_N.warm hW hN, by rw [hU]; exact ((hTh.kept (fun a h1 h2 => hS.2.1 a h1 h2)).narrow hFc).moved hW.alike⟩⟩ rfl rfl hl.1 rfl (lv_room (Nat.le_of_ble_eq_true rfl)) d_Lw_about_5 ⟨Nat.le_of_ble_eq_true rfl, Nat.le_of_ble_eq_true rfl⟩) hS (fun q _ h => hFc q h) hFc (fun v9 u t H1 locs ht hvm hw hB hz1 hk1 hS => ?_) (fun x9 C9 u t H1 locs ht hvm hw hex hB hz1 hk1 hS => ?_)
  · obtain ⟨g1, rfl, g2⟩ := hw
    have hP1 : va_P (dC, dI) classes [] H1 := fun k q h => by simp at h
    have hD1 : va_D (va_A [(h, .inr (0, [ps_tape, .ref rp, ps_sha, ps_stock, ps_intake, .ref vw, ps_text, ps_maker, ps_recording, ps_tapeLength, ps_lastFault])), (rp, .inl (cR, 8, .inr (.inr (.inr (.inr rf))))), (vw, .inr (11, [vw_files, .ref no, vw_namings, .int 0, .int 0, .ref sk, vw_changes, .null, .int 0, vw_over, .int 0, .ref hd, vw_nexts, .ref sg])), (no, .inl (cI, 200, .inl f0)), (rr, .inr (7, [rr_members, rr_digest, .int 0, .int ver, rr_digestVersion])), (sk, .inr (9, [sk_bytes, sk_from, sk_firstDependency, sk_firstChange, sk_dependencies, sk_hashes, sk_byHash, sk_leansOn, sk_leantBy, sk_changes, sk_lines, .int 0])), (hd, .inl (cI, 256, .inl f1)), (sg, .inl (cI, 200, .inl f2))] s.heap.size) [] := ⟨fun i j q r h => by simp at h, fun k q h => by simp at h⟩
    obtain ⟨hP, hD⟩ := va_join (wr := [(o, .inl (cL, 1, .inr (.inl ov)))]) (w1 := []) hP hD [0, 1, 2, 3, 4, 5, 6, 7] [8] rfl rfl (by decide) (by decide) hk1 hFc hP1 hD1
    generalize H1 = H at hP hS ht ⊢
    have hP : va_P (dC, dI) classes [(o, .inl (cL, 1, .inr (.inl ov)))] H := hP
    have hD : va_D A [(o, .inl (cL, 1, .inr (.inl ov)))] := hD
    refine W.eq (g2 := F0 m 8 ls [.int 0, .int 0, .ref o]) rfl ?_
    refine W.widen (k := 2) (n := 12) (Nat.le_of_ble_eq_true rfl) (Nat.le_of_ble_eq_true rfl) ?_
    refine lv_i2l hx hb d_Lw_about_8 rfl ?_
    refine va_last hx hb hK hP hD hS 0 2 rfl rfl (vp_in_nI (n := 0) (by omega) (by omega)) d_Lw_about_9 (fun H locs hP hD hS => ?_)
    rw [show (0 : Int32).toNatClampNeg = 0 from rfl] at hP hD
    have hP : va_P (dC, dI) classes [(o, .inl (cL, 1, .inr (.inl (vp_updL ov 0 ((0 : Int32).toInt64)))))] H := hP
    have hD : va_D A [(o, .inl (cL, 1, .inr (.inl (vp_updL ov 0 ((0 : Int32).toInt64)))))] := hD
    refine lv_goto (tgt := 21) hx hb d_Lw_about_10 (by decide) ?_
    refine lv_iconst (v := 0) hx hb d_Lw_about_21 (by decide) ?_
    refine W.widen (k := 3) (n := 18) (Nat.le_of_ble_eq_true rfl) (Nat.le_of_ble_eq_true rfl) ?_
    exact xc_ret (W.iret (v := 0) hx hb hr (fun t ht hW => ⟨Or.inl ⟨_, vp_updL ov 0 ((0 : Int32).toInt64), rfl, Or.inr (Or.inr ⟨g1, g2, rfl, rfl⟩), (by rw [ht]; exact hP), va_K.moved hW.alike hK, hD⟩, hS.F ht⟩) hS.2.2 d_Lw_about_22)
  · skip
    have hP1 : va_P (dC, dI) classes [] H1 := fun k q h => by simp at h
    have hD1 : va_D (va_A [(h, .inr (0, [ps_tape, .ref rp, ps_sha, ps_stock, ps_intake, .ref vw, ps_text, ps_maker, ps_recording, ps_tapeLength, ps_lastFault])), (rp, .inl (cR, 8, .inr (.inr (.inr (.inr rf))))), (vw, .inr (11, [vw_files, .ref no, vw_namings, .int 0, .int 0, .ref sk, vw_changes, .null, .int 0, vw_over, .int 0, .ref hd, vw_nexts, .ref sg])), (no, .inl (cI, 200, .inl f0)), (rr, .inr (7, [rr_members, rr_digest, .int 0, .int ver, rr_digestVersion])), (sk, .inr (9, [sk_bytes, sk_from, sk_firstDependency, sk_firstChange, sk_dependencies, sk_hashes, sk_byHash, sk_leansOn, sk_leantBy, sk_changes, sk_lines, .int 0])), (hd, .inl (cI, 256, .inl f1)), (sg, .inl (cI, 200, .inl f2))] s.heap.size) [] := ⟨fun i j q r h => by simp at h, fun k q h => by simp at h⟩
    obtain ⟨hP, hD⟩ := va_join (wr := [(o, .inl (cL, 1, .inr (.inl ov)))]) (w1 := []) hP hD [0, 1, 2, 3, 4, 5, 6, 7] [8] rfl rfl (by decide) (by decide) hk1 hFc hP1 hD1
    generalize H1 = H at hP hS ht ⊢
    have hP : va_P (dC, dI) classes [(o, .inl (cL, 1, .inr (.inl ov)))] H := hP
    have hD : va_D A [(o, .inl (cL, 1, .inr (.inl ov)))] := hD
    rcases hw with ⟨hb9, rfl⟩ | ⟨hb9, rfl, hb8⟩
    · skip
      refine xc_catch (tgt := 13) hown hrows ht hvm hex ⟨⟨by decide, by decide⟩, by decide, "java/util/NoSuchElementException", hts _ gw_695, Or.inl ⟨va_Nw.use rfl (hN _ gn_706), rfl⟩⟩ ?_
      refine lv_astore (lv' := [(4, .ref x9), (0, .ref h), (1, .int p0), (2, .int p1), (3, .ref o)]) hx hb d_Lw_about_13 hl (by decide) rfl (fun ls hl => ?_)
      refine lv_iconst (v := 1) hx hb d_Lw_about_15 (by decide) ?_
      refine W.widen (k := 3) (n := 18) (Nat.le_of_ble_eq_true rfl) (Nat.le_of_ble_eq_true rfl) ?_
      exact xc_ret (W.iret (v := 1) hx hb hr (fun t ht hW => ⟨Or.inl ⟨_, ov, rfl, Or.inl ⟨hb9, rfl⟩, (by rw [ht]; exact hP), va_K.moved hW.alike hK, hD⟩, hS.F ht⟩) hS.2.2 d_Lw_about_16)
    · skip
      refine xc_catch (tgt := 17) hown hrows ht hvm hex ⟨⟨by decide, by decide⟩, by decide, "java/util/NoSuchElementException", hts _ gw_695, Or.inr ⟨hNc ("java/lang/IllegalArgumentException", "java/util/NoSuchElementException") (by decide), ⟨⟨by decide, by decide⟩, by decide, "java/lang/IllegalArgumentException", hts _ gw_672, Or.inl ⟨va_Nw.use rfl (hN _ gn_679), rfl⟩⟩⟩⟩ ?_
      refine lv_astore (lv' := [(4, .ref x9), (0, .ref h), (1, .int p0), (2, .int p1), (3, .ref o)]) hx hb d_Lw_about_17 hl (by decide) rfl (fun ls hl => ?_)
      refine lv_iconst (v := 2) hx hb d_Lw_about_19 (by decide) ?_
      refine W.widen (k := 3) (n := 18) (Nat.le_of_ble_eq_true rfl) (Nat.le_of_ble_eq_true rfl) ?_
      exact xc_ret (W.iret (v := 2) hx hb hr (fun t ht hW => ⟨Or.inl ⟨_, ov, rfl, Or.inr (Or.inl ⟨hb9, hb8, rfl⟩), (by rw [ht]; exact hP), va_K.moved hW.alike hK, hD⟩, hS.F ht⟩) hS.2.2 d_Lw_about_20)
set_option maxHeartbeats 4000000 in
set_option maxRecDepth 100000 in
/-- the law's feed -/
theorem m_L_feed (l : Launch) (dC : Nat → ClassId) (dI : Nat → Nat → Nat) (cI cB cL cZ cR : ClassId) (hlt : xl_T l) (h tp o : Nat) (v1 v2 v3 v4 v5 v6 v7 v8 : Value) (L : Nat) (flt : Int32) (f : Nat → Int32) (ov : Nat → Int64) (p0 p1 p2 p3 p4 : Int32) (sz : Nat) (hL : L ≤ 65536) : xc_Met l y_Lw_feed ws_Lw_feed ({ frames := 16, cells := 3, slots := 18, locals := 500 }) (xw_Pl dC dI [(cI, .int), (cB, .byte), (cL, .long), (cZ, .boolean), (cR, .object "PatchStore$Repository")] [.ref h, .int p0, .int p1, .int p2, .int p3, .int p4, .ref o] [(h, .inr (0, [.ref tp, v1, v2, v3, v4, v5, v6, v7, v8, .int (nI L), .int flt])), (tp, .inl (cB, 65536, .inl f)), (o, .inl (cL, 1, .inr (.inl ov)))] sz) (xc_Q (S := Nat → Int64) (fun v (u : Nat → Int64) => (L + 20 ≤ 65536 ∧ v = some (.int 0) ∧ u 0 = (nI (L + 20)).toInt64) ∨ (65536 < L + 20 ∧ v = some (.int 1))) (fun _ _ => False) (fun u t => xw_B dC dI [(cI, .int), (cB, .byte), (cL, .long), (cZ, .boolean), (cR, .object "PatchStore$Repository")] (va_A [(h, .inr (0, [.ref tp, v1, v2, v3, v4, v5, v6, v7, v8, .int (nI L), .int flt])), (tp, .inl (cB, 65536, .inl f)), (o, .inl (cL, 1, .inr (.inl ov)))] sz) [(o, .inl (cL, 1, .inr (.inl u)))] t) (va_A [(h, .inr (0, [.ref tp, v1, v2, v3, v4, v5, v6, v7, v8, .int (nI L), .int flt])), (tp, .inl (cB, 65536, .inl f)), (o, .inl (cL, 1, .inr (.inl ov)))] sz)) 3 18 (va_A [(h, .inr (0, [.ref tp, v1, v2, v3, v4, v5, v6, v7, v8, .int (nI L), .int flt])), (tp, .inl (cB, 65536, .inl f)), (o, .inl (cL, 1, .inr (.inl ov)))] sz) := by
  refine xc_ofWH (cc := method_3_code) (maxL := 8) (ret := (Option.some Jvm.ClassFile.FieldType.int)) (hh := [((0 : Nat), (16 : Nat), (19 : Nat), (13 : Nat))]) (by decide) rfl ?_
  intro p e s m args below meth c s₁ B hml hrows hv
  obtain ⟨rfl, hsz, hP, hK, hD0, hN, hTh, hNc⟩ := hv
  have hx := B.exec
  have hb := B.bytes
  have hr := B.returns
  have hts0 := atoms_spec (ws := ws_Lw_feed) B.pre
  have hts : ∀ w ∈ xg_1, w.before _ s = true := fun w h => hts0 w (List.mem_cons_of_mem _ h)
  have hown : s.vm.findClass "PatchStoreLaw" = some m.cls := findClass_of_methodNamed B.named
  have hlocks := B.notSynchronized
  subst hsz
  have hD := hD0.self (sz := s.heap.size)
  generalize hAe : va_A [(h, .inr (0, [.ref tp, v1, v2, v3, v4, v5, v6, v7, v8, .int (nI L), .int flt])), (tp, .inl (cB, 65536, .inl f)), (o, .inl (cL, 1, .inr (.inl ov)))] s.heap.size = A at hD hTh ⊢
  have hA : ∀ q : Nat, s.heap.size ≤ q → A q := fun q h => by rw [← hAe]; exact Or.inr h
  have hS : va_S A s.heap s.heap [] := va_S.rf
  have hl := lv_entry ([.ref h, .int p0, .int p1, .int p2, .int p3, .int p4, .ref o]) (n := 8) (Nat.le_of_ble_eq_true rfl)
  rw [lg_entry_eq]
  generalize (lg_sl ([.ref h, .int p0, .int p1, .int p2, .int p3, .int p4, .ref o]) ++ List.replicate (8 - (lg_sl ([.ref h, .int p0, .int p1, .int p2, .int p3, .int p4, .ref o])).length) Slot.unset).toArray = ls at hl ⊢
  have hl : lv_has ls 8 [(0, .ref h), (1, .int p0), (2, .int p1), (3, .int p2), (4, .int p3), (5, .int p4), (6, .ref o)] := hl
  refine lv_aload hx hb d_Lw_feed_0 (lv_at hl 6 rfl) ?_
  refine lv_iconst (v := 0) hx hb d_Lw_feed_2 (by decide) ?_
  refine lv_aload_n hx hb d_Lw_feed_3 rfl (lv_at hl 0 rfl) ?_
  refine lv_iload_n hx hb d_Lw_feed_4 rfl (lv_at hl 1 rfl) ?_
  refine lv_iload_n hx hb d_Lw_feed_5 rfl (lv_at hl 2 rfl) ?_
  refine lv_iload_n hx hb d_Lw_feed_6 rfl (lv_at hl 3 rfl) ?_
  refine lv_iload hx hb d_Lw_feed_7 (lv_at hl 4 rfl) ?_
  refine lv_iload hx hb d_Lw_feed_9 (lv_at hl 5 rfl) ?_
  have hPc := hP.sub (ws' := [(h, .inr (0, [.ref tp, v1, v2, v3, v4, v5, v6, v7, v8, .int (nI L), .int flt])), (tp, .inl (cB, 65536, .inl f))]) [0, 1] rfl
  have hDc := hD.sub (ws' := [(h, .inr (0, [.ref tp, v1, v2, v3, v4, v5, v6, v7, v8, .int (nI L), .int flt])), (tp, .inl (cB, 65536, .inl f))]) [0, 1] (by decide) rfl
  have hFc := va_free (wc := [(h, .inr (0, [.ref tp, v1, v2, v3, v4, v5, v6, v7, v8, .int (nI L), .int flt])), (tp, .inl (cB, 65536, .inl f))]) hD hS hA [0, 1] rfl
  refine xc_call (xc_runV (As := [.int p0, .int p1, .int p2, .int p3, .int p4]) (rest := [.int 0, .ref o]) (C := "PatchStore") ⟨hx, hb, hml, hown, hts⟩ (m_PS_feed l dC dI cI cB cL cZ cR hlt h tp v1 v2 v3 v4 v5 v6 v7 v8 L flt f p0 p1 p2 p3 p4 s.heap.size hL) (xc_bOf 5 hts (xg_in gw_597) (xc_Is.code (hts _ gw_597)) rfl rfl (hts _ gw_1) (by decide +kernel) ⟨Nat.le_of_ble_eq_true rfl, Nat.le_of_ble_eq_true rfl⟩) (hts _ gw_594) (hts _ gw_595) (hts _ gw_596) ⟨xw_blindx, va_recv hK hPc (ci := 0) (q0 := 0) rfl rfl, fun U hU hW => ⟨rfl, by rw [hU], by rw [hU]; exact hPc, va_K.moved hW.alike hK, hDc.weaken (fun _ _ _ _ => trivial), xg_N.warm hW hN, by rw [hU]; exact ((hTh.kept (fun a h1 h2 => hS.2.1 a h1 h2)).narrow hFc).moved hW.alike⟩⟩ rfl rfl hl.1 rfl (lv_room (Nat.le_of_ble_eq_true rfl)) d_Lw_feed_11 ⟨Nat.le_of_ble_eq_true rfl, Nat.le_of_ble_eq_true rfl⟩) hS (fun q _ h => hFc q h) hFc (fun v9 u t H1 locs ht hvm hw hB hz1 hk1 hS => ?_) (fun x9 C9 u t H1 locs ht hvm hw hex hB hz1 hk1 hS => ?_)
  · obtain ⟨g1, rfl, -⟩ := hw
    have hP1 : va_P (dC, dI) classes [] H1 := fun k q h => by simp at h
    have hD1 : va_D (va_A [(h, .inr (0, [.ref tp, v1, v2, v3, v4, v5, v6, v7, v8, .int (nI L), .int flt])), (tp, .inl (cB, 65536, .inl f))] s.heap.size) [] := ⟨fun i j q r h => by simp at h, fun k q h => by simp at h⟩
    obtain ⟨hP, hD⟩ := va_join (wr := [(o, .inl (cL, 1, .inr (.inl ov)))]) (w1 := []) hP hD [0, 1] [2] rfl rfl (by decide) (by decide) hk1 hFc hP1 hD1
    generalize H1 = H at hP hS ht ⊢
    have hP : va_P (dC, dI) classes [(o, .inl (cL, 1, .inr (.inl ov)))] H := hP
    have hD : va_D A [(o, .inl (cL, 1, .inr (.inl ov)))] := hD
    refine W.eq (g2 := F0 m 14 ls [.int (nI (L + 20)), .int 0, .ref o]) rfl ?_
    refine W.widen (k := 1) (n := 6) (Nat.le_of_ble_eq_true rfl) (Nat.le_of_ble_eq_true rfl) ?_
    refine lv_i2l hx hb d_Lw_feed_14 rfl ?_
    refine va_last hx hb hK hP hD hS 0 2 rfl rfl (vp_in_nI (n := 0) (by omega) (by omega)) d_Lw_feed_15 (fun H locs hP hD hS => ?_)
    rw [show (0 : Int32).toNatClampNeg = 0 from rfl] at hP hD
    have hP : va_P (dC, dI) classes [(o, .inl (cL, 1, .inr (.inl (vp_updL ov 0 ((nI (L + 20) : Int32).toInt64)))))] H := hP
    have hD : va_D A [(o, .inl (cL, 1, .inr (.inl (vp_updL ov 0 ((nI (L + 20) : Int32).toInt64)))))] := hD
    refine lv_goto (tgt := 23) hx hb d_Lw_feed_16 (by decide) ?_
    refine lv_iconst (v := 0) hx hb d_Lw_feed_23 (by decide) ?_
    refine W.widen (k := 3) (n := 18) (Nat.le_of_ble_eq_true rfl) (Nat.le_of_ble_eq_true rfl) ?_
    exact xc_ret (W.iret (v := 0) hx hb hr (fun t ht hW => ⟨Or.inl ⟨_, vp_updL ov 0 ((nI (L + 20) : Int32).toInt64), rfl, Or.inl ⟨g1, rfl, rfl⟩, (by rw [ht]; exact hP), va_K.moved hW.alike hK, hD⟩, hS.F ht⟩) hS.2.2 d_Lw_feed_24)
  · skip
    have hP1 : va_P (dC, dI) classes [] H1 := fun k q h => by simp at h
    have hD1 : va_D (va_A [(h, .inr (0, [.ref tp, v1, v2, v3, v4, v5, v6, v7, v8, .int (nI L), .int flt])), (tp, .inl (cB, 65536, .inl f))] s.heap.size) [] := ⟨fun i j q r h => by simp at h, fun k q h => by simp at h⟩
    obtain ⟨hP, hD⟩ := va_join (wr := [(o, .inl (cL, 1, .inr (.inl ov)))]) (w1 := []) hP hD [0, 1] [2] rfl rfl (by decide) (by decide) hk1 hFc hP1 hD1
    generalize H1 = H at hP hS ht ⊢
    have hP : va_P (dC, dI) classes [(o, .inl (cL, 1, .inr (.inl ov)))] H := hP
    have hD : va_D A [(o, .inl (cL, 1, .inr (.inl ov)))] := hD
    obtain ⟨hb9, rfl, -⟩ := hw
    skip
    refine xc_catch (tgt := 19) hown hrows ht hvm hex ⟨⟨by decide, by decide⟩, by decide, "java/lang/IllegalStateException", hts _ gw_593, Or.inl ⟨va_Nw.use rfl (hN _ gn_600), rfl⟩⟩ ?_
    refine lv_astore (lv' := [(7, .ref x9), (0, .ref h), (1, .int p0), (2, .int p1), (3, .int p2), (4, .int p3), (5, .int p4), (6, .ref o)]) hx hb d_Lw_feed_19 hl (by decide) rfl (fun ls hl => ?_)
    refine lv_iconst (v := 1) hx hb d_Lw_feed_21 (by decide) ?_
    refine W.widen (k := 3) (n := 18) (Nat.le_of_ble_eq_true rfl) (Nat.le_of_ble_eq_true rfl) ?_
    exact xc_ret (W.iret (v := 1) hx hb hr (fun t ht hW => ⟨Or.inl ⟨_, ov, rfl, Or.inr ⟨hb9, rfl⟩, (by rw [ht]; exact hP), va_K.moved hW.alike hK, hD⟩, hS.F ht⟩) hS.2.2 d_Lw_feed_22)
set_option maxHeartbeats 4000000 in
set_option maxRecDepth 100000 in
/-- the law's end -/
theorem m_L_end (l : Launch) (dC : Nat → ClassId) (dI : Nat → Nat → Nat) (cI cB cL cZ cR : ClassId) (hlt : xl_T l) (h tp o : Nat) (v1 v2 v3 v4 v5 v6 v7 v8 : Value) (L : Nat) (flt : Int32) (f : Nat → Int32) (ov : Nat → Int64) (p0 : Int32) (sz : Nat) (hL : L ≤ 65536) : xc_Met l y_Lw_end ws_Lw_end ({ frames := 16, cells := 3, slots := 18, locals := 500 }) (xw_Pl dC dI [(cI, .int), (cB, .byte), (cL, .long), (cZ, .boolean), (cR, .object "PatchStore$Repository")] [.ref h, .int p0, .ref o] [(h, .inr (0, [.ref tp, v1, v2, v3, v4, v5, v6, v7, v8, .int (nI L), .int flt])), (o, .inl (cL, 1, .inr (.inl ov)))] sz) (xc_Q (S := Nat → Int64) (fun v (u : Nat → Int64) => (ps_end_ok p0 L ∧ v = some (.int 0) ∧ u 0 = p0.toInt64) ∨ (¬ ps_end_ok p0 L ∧ v = some (.int 1))) (fun _ _ => False) (fun u t => xw_B dC dI [(cI, .int), (cB, .byte), (cL, .long), (cZ, .boolean), (cR, .object "PatchStore$Repository")] (va_A [(h, .inr (0, [.ref tp, v1, v2, v3, v4, v5, v6, v7, v8, .int (nI L), .int flt])), (o, .inl (cL, 1, .inr (.inl ov)))] sz) [(o, .inl (cL, 1, .inr (.inl u)))] t) (va_A [(h, .inr (0, [.ref tp, v1, v2, v3, v4, v5, v6, v7, v8, .int (nI L), .int flt])), (o, .inl (cL, 1, .inr (.inl ov)))] sz)) 3 18 (va_A [(h, .inr (0, [.ref tp, v1, v2, v3, v4, v5, v6, v7, v8, .int (nI L), .int flt])), (o, .inl (cL, 1, .inr (.inl ov)))] sz) := by
  refine xc_ofWH (cc := method_4_code) (maxL := 4) (ret := (Option.some Jvm.ClassFile.FieldType.int)) (hh := [((0 : Nat), (9 : Nat), (12 : Nat), (19 : Nat))]) (by decide) rfl ?_
  intro p e s m args below meth c s₁ B hml hrows hv
  obtain ⟨rfl, hsz, hP, hK, hD0, hN, hTh, hNc⟩ := hv
  have hx := B.exec
  have hb := B.bytes
  have hr := B.returns
  have hts0 := atoms_spec (ws := ws_Lw_end) B.pre
  have hts : ∀ w ∈ xg_1, w.before _ s = true := fun w h => hts0 w (List.mem_cons_of_mem _ h)
  have hown : s.vm.findClass "PatchStoreLaw" = some m.cls := findClass_of_methodNamed B.named
  have hlocks := B.notSynchronized
  subst hsz
  have hD := hD0.self (sz := s.heap.size)
  generalize hAe : va_A [(h, .inr (0, [.ref tp, v1, v2, v3, v4, v5, v6, v7, v8, .int (nI L), .int flt])), (o, .inl (cL, 1, .inr (.inl ov)))] s.heap.size = A at hD hTh ⊢
  have hA : ∀ q : Nat, s.heap.size ≤ q → A q := fun q h => by rw [← hAe]; exact Or.inr h
  have hS : va_S A s.heap s.heap [] := va_S.rf
  have hl := lv_entry ([.ref h, .int p0, .ref o]) (n := 4) (Nat.le_of_ble_eq_true rfl)
  rw [lg_entry_eq]
  generalize (lg_sl ([.ref h, .int p0, .ref o]) ++ List.replicate (4 - (lg_sl ([.ref h, .int p0, .ref o])).length) Slot.unset).toArray = ls at hl ⊢
  have hl : lv_has ls 4 [(0, .ref h), (1, .int p0), (2, .ref o)] := hl
  refine lv_aload_n hx hb d_Lw_end_0 rfl (lv_at hl 2 rfl) ?_
  refine lv_iconst (v := 0) hx hb d_Lw_end_1 (by decide) ?_
  refine lv_aload_n hx hb d_Lw_end_2 rfl (lv_at hl 0 rfl) ?_
  refine lv_iload_n hx hb d_Lw_end_3 rfl (lv_at hl 1 rfl) ?_
  have hPc := hP.sub (ws' := [(h, .inr (0, [.ref tp, v1, v2, v3, v4, v5, v6, v7, v8, .int (nI L), .int flt]))]) [0] rfl
  have hDc := hD.sub (ws' := [(h, .inr (0, [.ref tp, v1, v2, v3, v4, v5, v6, v7, v8, .int (nI L), .int flt]))]) [0] (by decide) rfl
  have hFc := va_free (wc := [(h, .inr (0, [.ref tp, v1, v2, v3, v4, v5, v6, v7, v8, .int (nI L), .int flt]))]) hD hS hA [0] rfl
  refine xc_call (xc_runV (As := [.int p0]) (rest := [.int 0, .ref o]) (C := "PatchStore") ⟨hx, hb, hml, hown, hts⟩ (m_PS_end l dC dI cI cB cL cZ cR hlt h tp v1 v2 v3 v4 v5 v6 v7 v8 L flt f p0 s.heap.size hL) (xc_bOf 1 hts (xg_in gw_676) (xc_Is.code (hts _ gw_676)) rfl rfl (hts _ gw_1) (by decide +kernel) ⟨Nat.le_of_ble_eq_true rfl, Nat.le_of_ble_eq_true rfl⟩) (hts _ gw_673) (hts _ gw_674) (hts _ gw_675) ⟨xw_blindx, va_recv hK hPc (ci := 0) (q0 := 0) rfl rfl, fun U hU hW => ⟨rfl, by rw [hU], by rw [hU]; exact hPc, va_K.moved hW.alike hK, hDc.weaken (fun _ _ _ _ => trivial), xg_N.warm hW hN, by rw [hU]; exact ((hTh.kept (fun a h1 h2 => hS.2.1 a h1 h2)).narrow hFc).moved hW.alike⟩⟩ rfl rfl hl.1 rfl (lv_room (Nat.le_of_ble_eq_true rfl)) d_Lw_end_4 ⟨Nat.le_of_ble_eq_true rfl, Nat.le_of_ble_eq_true rfl⟩) hS (fun q _ h => hFc q h) hFc (fun v9 u t H1 locs ht hvm hw hB hz1 hk1 hS => ?_) (fun x9 C9 u t H1 locs ht hvm hw hex hB hz1 hk1 hS => ?_)
  · obtain ⟨g1, rfl, g3⟩ := hw
    have hP1 : va_P (dC, dI) classes [] H1 := fun k q h => by simp at h
    have hD1 : va_D (va_A [(h, .inr (0, [.ref tp, v1, v2, v3, v4, v5, v6, v7, v8, .int (nI L), .int flt]))] s.heap.size) [] := ⟨fun i j q r h => by simp at h, fun k q h => by simp at h⟩
    obtain ⟨hP, hD⟩ := va_join (wr := [(o, .inl (cL, 1, .inr (.inl ov)))]) (w1 := []) hP hD [0] [1] rfl rfl (by decide) (by decide) hk1 hFc hP1 hD1
    generalize H1 = H at hP hS ht ⊢
    have hP : va_P (dC, dI) classes [(o, .inl (cL, 1, .inr (.inl ov)))] H := hP
    have hD : va_D A [(o, .inl (cL, 1, .inr (.inl ov)))] := hD
    refine W.eq (g2 := F0 m 7 ls [.int (nI u), .int 0, .ref o]) rfl ?_
    refine W.widen (k := 1) (n := 6) (Nat.le_of_ble_eq_true rfl) (Nat.le_of_ble_eq_true rfl) ?_
    refine lv_i2l hx hb d_Lw_end_7 rfl ?_
    refine va_last hx hb hK hP hD hS 0 2 rfl rfl (vp_in_nI (n := 0) (by omega) (by omega)) d_Lw_end_8 (fun H locs hP hD hS => ?_)
    rw [show (0 : Int32).toNatClampNeg = 0 from rfl] at hP hD
    have hP : va_P (dC, dI) classes [(o, .inl (cL, 1, .inr (.inl (vp_updL ov 0 ((nI u : Int32).toInt64)))))] H := hP
    have hD : va_D A [(o, .inl (cL, 1, .inr (.inl (vp_updL ov 0 ((nI u : Int32).toInt64)))))] := hD
    refine lv_goto (tgt := 15) hx hb d_Lw_end_9 (by decide) ?_
    refine lv_iconst (v := 0) hx hb d_Lw_end_15 (by decide) ?_
    refine W.widen (k := 3) (n := 18) (Nat.le_of_ble_eq_true rfl) (Nat.le_of_ble_eq_true rfl) ?_
    exact xc_ret (W.iret (v := 0) hx hb hr (fun t ht hW => ⟨Or.inl ⟨_, vp_updL ov 0 ((nI u : Int32).toInt64), rfl, Or.inl ⟨⟨u, g1, g3⟩, rfl, by rw [g3]; rfl⟩, (by rw [ht]; exact hP), va_K.moved hW.alike hK, hD⟩, hS.F ht⟩) hS.2.2 d_Lw_end_16)
  · skip
    have hP1 : va_P (dC, dI) classes [] H1 := fun k q h => by simp at h
    have hD1 : va_D (va_A [(h, .inr (0, [.ref tp, v1, v2, v3, v4, v5, v6, v7, v8, .int (nI L), .int flt]))] s.heap.size) [] := ⟨fun i j q r h => by simp at h, fun k q h => by simp at h⟩
    obtain ⟨hP, hD⟩ := va_join (wr := [(o, .inl (cL, 1, .inr (.inl ov)))]) (w1 := []) hP hD [0] [1] rfl rfl (by decide) (by decide) hk1 hFc hP1 hD1
    generalize H1 = H at hP hS ht ⊢
    have hP : va_P (dC, dI) classes [(o, .inl (cL, 1, .inr (.inl ov)))] H := hP
    have hD : va_D A [(o, .inl (cL, 1, .inr (.inl ov)))] := hD
    obtain ⟨hb9, rfl, -⟩ := hw
    skip
    refine xc_catch (tgt := 12) hown hrows ht hvm hex ⟨⟨by decide, by decide⟩, by decide, "java/lang/IllegalArgumentException", hts _ gw_672, Or.inl ⟨va_Nw.use rfl (hN _ gn_679), rfl⟩⟩ ?_
    refine lv_astore_n (lv' := [(3, .ref x9), (0, .ref h), (1, .int p0), (2, .ref o)]) hx hb d_Lw_end_12 rfl hl (by decide) rfl (fun ls hl => ?_)
    refine lv_iconst (v := 1) hx hb d_Lw_end_13 (by decide) ?_
    refine W.widen (k := 3) (n := 18) (Nat.le_of_ble_eq_true rfl) (Nat.le_of_ble_eq_true rfl) ?_
    exact xc_ret (W.iret (v := 1) hx hb hr (fun t ht hW => ⟨Or.inl ⟨_, ov, rfl, Or.inr ⟨hb9, rfl⟩, (by rw [ht]; exact hP), va_K.moved hW.alike hK, hD⟩, hS.F ht⟩) hS.2.2 d_Lw_end_14)
