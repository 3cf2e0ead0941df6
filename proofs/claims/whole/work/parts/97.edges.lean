/-! 97.edges.lean.txt -/
theorem gw_150 : (Jvm.Cond.fieldLink "PatchStore$Text" (127 : Nat) "PatchStore$Lines" "place" "[I") ∈ xg_1 := xg_s1 150 rfl rfl
theorem gw_155 : (Jvm.Cond.fieldLink "PatchStore$Text" (136 : Nat) "PatchStore$Lines" "up" "[I") ∈ xg_1 := xg_s1 155 rfl rfl
theorem gw_158 : (Jvm.Cond.fieldLink "PatchStore$Text" (139 : Nat) "PatchStore$Lines" "down" "[I") ∈ xg_1 := xg_s1 158 rfl rfl
theorem gw_163 : (Jvm.Cond.fieldLink "PatchStore$Text" (145 : Nat) "PatchStore$Lines" "total" "I") ∈ xg_1 := xg_s1 163 rfl rfl
theorem gw_1068 : (Jvm.Cond.methodLink "PatchStore$Text" (132 : Nat) ({ cls := "PatchStore$Text", name := "layEdge", desc := "(II)V" } : Jvm.MethodName)) ∈ xg_1 := xg_s5 108 rfl rfl
theorem gw_1070 : (Jvm.Cond.instanceMethod ({ cls := "PatchStore$Text", name := "layEdge", desc := "(II)V" } : Jvm.MethodName)) ∈ xg_1 := xg_s5 110 rfl rfl
theorem gw_1071 : (Jvm.Cond.code ({ cls := "PatchStore$Text", name := "layEdge", desc := "(II)V" } : Jvm.MethodName) prog_11_method_9_code (4 : Nat) (Option.none : Option Jvm.ClassFile.FieldType)) ∈ xg_1 := xg_s5 111 rfl rfl
theorem gw_1072 : (Jvm.Cond.methodLink "PatchStore$Text" (142 : Nat) ({ cls := "PatchStore$Text", name := "isLastOfInsert", desc := "(I)Z" } : Jvm.MethodName)) ∈ xg_1 := xg_s5 112 rfl rfl
theorem gw_1074 : (Jvm.Cond.instanceMethod ({ cls := "PatchStore$Text", name := "isLastOfInsert", desc := "(I)Z" } : Jvm.MethodName)) ∈ xg_1 := xg_s5 114 rfl rfl
theorem gw_1075 : (Jvm.Cond.code ({ cls := "PatchStore$Text", name := "isLastOfInsert", desc := "(I)Z" } : Jvm.MethodName) prog_11_method_8_code (2 : Nat) (Option.some Jvm.ClassFile.FieldType.boolean)) ∈ xg_1 := xg_s5 115 rfl rfl
def y_Tx_clearRows : MethodName := ⟨"PatchStore$Text", "clearRows", "()V"⟩
abbrev c_Tx_clearRows : Cond := (Jvm.Cond.code ({ cls := "PatchStore$Text", name := "clearRows", desc := "()V" } : Jvm.MethodName) prog_11_method_6_code (2 : Nat) (Option.none : Option Jvm.ClassFile.FieldType))
abbrev ws_Tx_clearRows : List Cond := c_Tx_clearRows :: xg_1
theorem d_Tx_clearRows_0 : decode prog_11_method_6_code 0 = .ok (.iconst 0, 1) := by decide +kernel
theorem d_Tx_clearRows_1 : decode prog_11_method_6_code 1 = .ok (.istore_n 1, 1) := by decide +kernel
theorem d_Tx_clearRows_2 : decode prog_11_method_6_code 2 = .ok (.iload_n 1, 1) := by decide +kernel
theorem d_Tx_clearRows_3 : decode prog_11_method_6_code 3 = .ok (.aload_n 0, 1) := by decide +kernel
theorem d_Tx_clearRows_4 : decode prog_11_method_6_code 4 = .ok (.getfield 97, 3) := by decide +kernel
theorem d_Tx_clearRows_7 : decode prog_11_method_6_code 7 = .ok (.bipush 7, 2) := by decide +kernel
theorem d_Tx_clearRows_9 : decode prog_11_method_6_code 9 = .ok (.imul, 1) := by decide +kernel
theorem d_Tx_clearRows_10 : decode prog_11_method_6_code 10 = .ok (.if_icmp .ge 16, 3) := by decide +kernel
theorem d_Tx_clearRows_13 : decode prog_11_method_6_code 13 = .ok (.aload_n 0, 1) := by decide +kernel
theorem d_Tx_clearRows_14 : decode prog_11_method_6_code 14 = .ok (.getfield 21, 3) := by decide +kernel
theorem d_Tx_clearRows_17 : decode prog_11_method_6_code 17 = .ok (.iload_n 1, 1) := by decide +kernel
theorem d_Tx_clearRows_18 : decode prog_11_method_6_code 18 = .ok (.lconst 0, 1) := by decide +kernel
theorem d_Tx_clearRows_19 : decode prog_11_method_6_code 19 = .ok (.lastore, 1) := by decide +kernel
theorem d_Tx_clearRows_20 : decode prog_11_method_6_code 20 = .ok (.iinc 1 1, 3) := by decide +kernel
theorem d_Tx_clearRows_23 : decode prog_11_method_6_code 23 = .ok (.goto (-21), 3) := by decide +kernel
theorem d_Tx_clearRows_26 : decode prog_11_method_6_code 26 = .ok (.iconst 0, 1) := by decide +kernel
theorem d_Tx_clearRows_27 : decode prog_11_method_6_code 27 = .ok (.istore_n 1, 1) := by decide +kernel
theorem d_Tx_clearRows_28 : decode prog_11_method_6_code 28 = .ok (.iload_n 1, 1) := by decide +kernel
theorem d_Tx_clearRows_29 : decode prog_11_method_6_code 29 = .ok (.aload_n 0, 1) := by decide +kernel
theorem d_Tx_clearRows_30 : decode prog_11_method_6_code 30 = .ok (.getfield 97, 3) := by decide +kernel
theorem d_Tx_clearRows_33 : decode prog_11_method_6_code 33 = .ok (.bipush 8, 2) := by decide +kernel
theorem d_Tx_clearRows_35 : decode prog_11_method_6_code 35 = .ok (.imul, 1) := by decide +kernel
theorem d_Tx_clearRows_36 : decode prog_11_method_6_code 36 = .ok (.if_icmp .ge 16, 3) := by decide +kernel
theorem d_Tx_clearRows_39 : decode prog_11_method_6_code 39 = .ok (.aload_n 0, 1) := by decide +kernel
theorem d_Tx_clearRows_40 : decode prog_11_method_6_code 40 = .ok (.getfield 25, 3) := by decide +kernel
theorem d_Tx_clearRows_43 : decode prog_11_method_6_code 43 = .ok (.iload_n 1, 1) := by decide +kernel
theorem d_Tx_clearRows_44 : decode prog_11_method_6_code 44 = .ok (.lconst 0, 1) := by decide +kernel
theorem d_Tx_clearRows_45 : decode prog_11_method_6_code 45 = .ok (.lastore, 1) := by decide +kernel
theorem d_Tx_clearRows_46 : decode prog_11_method_6_code 46 = .ok (.iinc 1 1, 3) := by decide +kernel
theorem d_Tx_clearRows_49 : decode prog_11_method_6_code 49 = .ok (.goto (-21), 3) := by decide +kernel
theorem d_Tx_clearRows_52 : decode prog_11_method_6_code 52 = .ok (.iconst 0, 1) := by decide +kernel
theorem d_Tx_clearRows_53 : decode prog_11_method_6_code 53 = .ok (.istore_n 1, 1) := by decide +kernel
theorem d_Tx_clearRows_54 : decode prog_11_method_6_code 54 = .ok (.iload_n 1, 1) := by decide +kernel
theorem d_Tx_clearRows_55 : decode prog_11_method_6_code 55 = .ok (.aload_n 0, 1) := by decide +kernel
theorem d_Tx_clearRows_56 : decode prog_11_method_6_code 56 = .ok (.getfield 97, 3) := by decide +kernel
theorem d_Tx_clearRows_59 : decode prog_11_method_6_code 59 = .ok (.if_icmp .ge 16, 3) := by decide +kernel
theorem d_Tx_clearRows_62 : decode prog_11_method_6_code 62 = .ok (.aload_n 0, 1) := by decide +kernel
theorem d_Tx_clearRows_63 : decode prog_11_method_6_code 63 = .ok (.getfield 28, 3) := by decide +kernel
theorem d_Tx_clearRows_66 : decode prog_11_method_6_code 66 = .ok (.iload_n 1, 1) := by decide +kernel
theorem d_Tx_clearRows_67 : decode prog_11_method_6_code 67 = .ok (.iconst 0, 1) := by decide +kernel
theorem d_Tx_clearRows_68 : decode prog_11_method_6_code 68 = .ok (.iastore, 1) := by decide +kernel
theorem d_Tx_clearRows_69 : decode prog_11_method_6_code 69 = .ok (.iinc 1 1, 3) := by decide +kernel
theorem d_Tx_clearRows_72 : decode prog_11_method_6_code 72 = .ok (.goto (-18), 3) := by decide +kernel
theorem d_Tx_clearRows_75 : decode prog_11_method_6_code 75 = .ok (.return_, 1) := by decide +kernel
def y_Tx_layEdge : MethodName := ⟨"PatchStore$Text", "layEdge", "(II)V"⟩
abbrev c_Tx_layEdge : Cond := (Jvm.Cond.code ({ cls := "PatchStore$Text", name := "layEdge", desc := "(II)V" } : Jvm.MethodName) prog_11_method_9_code (4 : Nat) (Option.none : Option Jvm.ClassFile.FieldType))
abbrev ws_Tx_layEdge : List Cond := c_Tx_layEdge :: xg_1
theorem d_Tx_layEdge_0 : decode prog_11_method_9_code 0 = .ok (.aload_n 0, 1) := by decide +kernel
theorem d_Tx_layEdge_1 : decode prog_11_method_9_code 1 = .ok (.getfield 18, 3) := by decide +kernel
theorem d_Tx_layEdge_4 : decode prog_11_method_9_code 4 = .ok (.iload_n 2, 1) := by decide +kernel
theorem d_Tx_layEdge_5 : decode prog_11_method_9_code 5 = .ok (.iaload, 1) := by decide +kernel
theorem d_Tx_layEdge_6 : decode prog_11_method_9_code 6 = .ok (.istore_n 3, 1) := by decide +kernel
theorem d_Tx_layEdge_7 : decode prog_11_method_9_code 7 = .ok (.aload_n 0, 1) := by decide +kernel
theorem d_Tx_layEdge_8 : decode prog_11_method_9_code 8 = .ok (.getfield 21, 3) := by decide +kernel
theorem d_Tx_layEdge_11 : decode prog_11_method_9_code 11 = .ok (.aload_n 0, 1) := by decide +kernel
theorem d_Tx_layEdge_12 : decode prog_11_method_9_code 12 = .ok (.getfield 18, 3) := by decide +kernel
theorem d_Tx_layEdge_15 : decode prog_11_method_9_code 15 = .ok (.iload_n 1, 1) := by decide +kernel
theorem d_Tx_layEdge_16 : decode prog_11_method_9_code 16 = .ok (.iaload, 1) := by decide +kernel
theorem d_Tx_layEdge_17 : decode prog_11_method_9_code 17 = .ok (.bipush 7, 2) := by decide +kernel
theorem d_Tx_layEdge_19 : decode prog_11_method_9_code 19 = .ok (.imul, 1) := by decide +kernel
theorem d_Tx_layEdge_20 : decode prog_11_method_9_code 20 = .ok (.iload_n 3, 1) := by decide +kernel
theorem d_Tx_layEdge_21 : decode prog_11_method_9_code 21 = .ok (.bipush 6, 2) := by decide +kernel
theorem d_Tx_layEdge_23 : decode prog_11_method_9_code 23 = .ok (.ishr, 1) := by decide +kernel
theorem d_Tx_layEdge_24 : decode prog_11_method_9_code 24 = .ok (.iadd, 1) := by decide +kernel
theorem d_Tx_layEdge_25 : decode prog_11_method_9_code 25 = .ok (.dup2, 1) := by decide +kernel
theorem d_Tx_layEdge_26 : decode prog_11_method_9_code 26 = .ok (.laload, 1) := by decide +kernel
theorem d_Tx_layEdge_27 : decode prog_11_method_9_code 27 = .ok (.lconst 1, 1) := by decide +kernel
theorem d_Tx_layEdge_28 : decode prog_11_method_9_code 28 = .ok (.iload_n 3, 1) := by decide +kernel
theorem d_Tx_layEdge_29 : decode prog_11_method_9_code 29 = .ok (.bipush 63, 2) := by decide +kernel
theorem d_Tx_layEdge_31 : decode prog_11_method_9_code 31 = .ok (.iand, 1) := by decide +kernel
theorem d_Tx_layEdge_32 : decode prog_11_method_9_code 32 = .ok (.lshl, 1) := by decide +kernel
theorem d_Tx_layEdge_33 : decode prog_11_method_9_code 33 = .ok (.lor, 1) := by decide +kernel
theorem d_Tx_layEdge_34 : decode prog_11_method_9_code 34 = .ok (.lastore, 1) := by decide +kernel
theorem d_Tx_layEdge_35 : decode prog_11_method_9_code 35 = .ok (.return_, 1) := by decide +kernel
def y_Tx_isLastOfInsert : MethodName := ⟨"PatchStore$Text", "isLastOfInsert", "(I)Z"⟩
abbrev c_Tx_isLastOfInsert : Cond := (Jvm.Cond.code ({ cls := "PatchStore$Text", name := "isLastOfInsert", desc := "(I)Z" } : Jvm.MethodName) prog_11_method_8_code (2 : Nat) (Option.some Jvm.ClassFile.FieldType.boolean))
abbrev ws_Tx_isLastOfInsert : List Cond := c_Tx_isLastOfInsert :: xg_1
theorem d_Tx_isLastOfInsert_0 : decode prog_11_method_8_code 0 = .ok (.iload_n 1, 1) := by decide +kernel
theorem d_Tx_isLastOfInsert_1 : decode prog_11_method_8_code 1 = .ok (.iconst 1, 1) := by decide +kernel
theorem d_Tx_isLastOfInsert_2 : decode prog_11_method_8_code 2 = .ok (.iadd, 1) := by decide +kernel
theorem d_Tx_isLastOfInsert_3 : decode prog_11_method_8_code 3 = .ok (.aload_n 0, 1) := by decide +kernel
theorem d_Tx_isLastOfInsert_4 : decode prog_11_method_8_code 4 = .ok (.getfield 49, 3) := by decide +kernel
theorem d_Tx_isLastOfInsert_7 : decode prog_11_method_8_code 7 = .ok (.getfield 145, 3) := by decide +kernel
theorem d_Tx_isLastOfInsert_10 : decode prog_11_method_8_code 10 = .ok (.if_icmp .ge 17, 3) := by decide +kernel
theorem d_Tx_isLastOfInsert_13 : decode prog_11_method_8_code 13 = .ok (.aload_n 0, 1) := by decide +kernel
theorem d_Tx_isLastOfInsert_14 : decode prog_11_method_8_code 14 = .ok (.getfield 49, 3) := by decide +kernel
theorem d_Tx_isLastOfInsert_17 : decode prog_11_method_8_code 17 = .ok (.getfield 127, 3) := by decide +kernel
theorem d_Tx_isLastOfInsert_20 : decode prog_11_method_8_code 20 = .ok (.iload_n 1, 1) := by decide +kernel
theorem d_Tx_isLastOfInsert_21 : decode prog_11_method_8_code 21 = .ok (.iconst 1, 1) := by decide +kernel
theorem d_Tx_isLastOfInsert_22 : decode prog_11_method_8_code 22 = .ok (.iadd, 1) := by decide +kernel
theorem d_Tx_isLastOfInsert_23 : decode prog_11_method_8_code 23 = .ok (.iaload, 1) := by decide +kernel
theorem d_Tx_isLastOfInsert_24 : decode prog_11_method_8_code 24 = .ok (.ifCond .ne 7, 3) := by decide +kernel
theorem d_Tx_isLastOfInsert_27 : decode prog_11_method_8_code 27 = .ok (.iconst 1, 1) := by decide +kernel
theorem d_Tx_isLastOfInsert_28 : decode prog_11_method_8_code 28 = .ok (.goto 4, 3) := by decide +kernel
theorem d_Tx_isLastOfInsert_31 : decode prog_11_method_8_code 31 = .ok (.iconst 0, 1) := by decide +kernel
theorem d_Tx_isLastOfInsert_32 : decode prog_11_method_8_code 32 = .ok (.ireturn, 1) := by decide +kernel
def y_Tx_reaches : MethodName := ⟨"PatchStore$Text", "reaches", "(II)Z"⟩
abbrev c_Tx_reaches : Cond := (Jvm.Cond.code ({ cls := "PatchStore$Text", name := "reaches", desc := "(II)Z" } : Jvm.MethodName) prog_11_method_12_code (3 : Nat) (Option.some Jvm.ClassFile.FieldType.boolean))
abbrev ws_Tx_reaches : List Cond := c_Tx_reaches :: xg_1
theorem d_Tx_reaches_0 : decode prog_11_method_12_code 0 = .ok (.aload_n 0, 1) := by decide +kernel
theorem d_Tx_reaches_1 : decode prog_11_method_12_code 1 = .ok (.getfield 21, 3) := by decide +kernel
theorem d_Tx_reaches_4 : decode prog_11_method_12_code 4 = .ok (.iload_n 1, 1) := by decide +kernel
theorem d_Tx_reaches_5 : decode prog_11_method_12_code 5 = .ok (.bipush 7, 2) := by decide +kernel
theorem d_Tx_reaches_7 : decode prog_11_method_12_code 7 = .ok (.imul, 1) := by decide +kernel
theorem d_Tx_reaches_8 : decode prog_11_method_12_code 8 = .ok (.iload_n 2, 1) := by decide +kernel
theorem d_Tx_reaches_9 : decode prog_11_method_12_code 9 = .ok (.bipush 6, 2) := by decide +kernel
theorem d_Tx_reaches_11 : decode prog_11_method_12_code 11 = .ok (.ishr, 1) := by decide +kernel
theorem d_Tx_reaches_12 : decode prog_11_method_12_code 12 = .ok (.iadd, 1) := by decide +kernel
theorem d_Tx_reaches_13 : decode prog_11_method_12_code 13 = .ok (.laload, 1) := by decide +kernel
theorem d_Tx_reaches_14 : decode prog_11_method_12_code 14 = .ok (.iload_n 2, 1) := by decide +kernel
theorem d_Tx_reaches_15 : decode prog_11_method_12_code 15 = .ok (.bipush 63, 2) := by decide +kernel
theorem d_Tx_reaches_17 : decode prog_11_method_12_code 17 = .ok (.iand, 1) := by decide +kernel
theorem d_Tx_reaches_18 : decode prog_11_method_12_code 18 = .ok (.lshr, 1) := by decide +kernel
theorem d_Tx_reaches_19 : decode prog_11_method_12_code 19 = .ok (.lconst 1, 1) := by decide +kernel
theorem d_Tx_reaches_20 : decode prog_11_method_12_code 20 = .ok (.land, 1) := by decide +kernel
theorem d_Tx_reaches_21 : decode prog_11_method_12_code 21 = .ok (.lconst 0, 1) := by decide +kernel
theorem d_Tx_reaches_22 : decode prog_11_method_12_code 22 = .ok (.lcmp, 1) := by decide +kernel
theorem d_Tx_reaches_23 : decode prog_11_method_12_code 23 = .ok (.ifCond .eq 7, 3) := by decide +kernel
theorem d_Tx_reaches_26 : decode prog_11_method_12_code 26 = .ok (.iconst 1, 1) := by decide +kernel
theorem d_Tx_reaches_27 : decode prog_11_method_12_code 27 = .ok (.goto 4, 3) := by decide +kernel
theorem d_Tx_reaches_30 : decode prog_11_method_12_code 30 = .ok (.iconst 0, 1) := by decide +kernel
theorem d_Tx_reaches_31 : decode prog_11_method_12_code 31 = .ok (.ireturn, 1) := by decide +kernel
def y_Tx_layInsertEdges : MethodName := ⟨"PatchStore$Text", "layInsertEdges", "()V"⟩
abbrev c_Tx_layInsertEdges : Cond := (Jvm.Cond.code ({ cls := "PatchStore$Text", name := "layInsertEdges", desc := "()V" } : Jvm.MethodName) prog_11_method_7_code (3 : Nat) (Option.none : Option Jvm.ClassFile.FieldType))
abbrev ws_Tx_layInsertEdges : List Cond := c_Tx_layInsertEdges :: xg_1
theorem d_Tx_layInsertEdges_0 : decode prog_11_method_7_code 0 = .ok (.iconst 0, 1) := by decide +kernel
theorem d_Tx_layInsertEdges_1 : decode prog_11_method_7_code 1 = .ok (.istore_n 1, 1) := by decide +kernel
theorem d_Tx_layInsertEdges_2 : decode prog_11_method_7_code 2 = .ok (.iload_n 1, 1) := by decide +kernel
theorem d_Tx_layInsertEdges_3 : decode prog_11_method_7_code 3 = .ok (.aload_n 0, 1) := by decide +kernel
theorem d_Tx_layInsertEdges_4 : decode prog_11_method_7_code 4 = .ok (.getfield 97, 3) := by decide +kernel
theorem d_Tx_layInsertEdges_7 : decode prog_11_method_7_code 7 = .ok (.if_icmp .ge 101, 3) := by decide +kernel
theorem d_Tx_layInsertEdges_10 : decode prog_11_method_7_code 10 = .ok (.aload_n 0, 1) := by decide +kernel
theorem d_Tx_layInsertEdges_11 : decode prog_11_method_7_code 11 = .ok (.getfield 15, 3) := by decide +kernel
theorem d_Tx_layInsertEdges_14 : decode prog_11_method_7_code 14 = .ok (.iload_n 1, 1) := by decide +kernel
theorem d_Tx_layInsertEdges_15 : decode prog_11_method_7_code 15 = .ok (.iaload, 1) := by decide +kernel
theorem d_Tx_layInsertEdges_16 : decode prog_11_method_7_code 16 = .ok (.istore_n 2, 1) := by decide +kernel
theorem d_Tx_layInsertEdges_17 : decode prog_11_method_7_code 17 = .ok (.aload_n 0, 1) := by decide +kernel
theorem d_Tx_layInsertEdges_18 : decode prog_11_method_7_code 18 = .ok (.getfield 49, 3) := by decide +kernel
theorem d_Tx_layInsertEdges_21 : decode prog_11_method_7_code 21 = .ok (.getfield 127, 3) := by decide +kernel
theorem d_Tx_layInsertEdges_24 : decode prog_11_method_7_code 24 = .ok (.iload_n 2, 1) := by decide +kernel
theorem d_Tx_layInsertEdges_25 : decode prog_11_method_7_code 25 = .ok (.iaload, 1) := by decide +kernel
theorem d_Tx_layInsertEdges_26 : decode prog_11_method_7_code 26 = .ok (.ifCond .le 14, 3) := by decide +kernel
theorem d_Tx_layInsertEdges_29 : decode prog_11_method_7_code 29 = .ok (.aload_n 0, 1) := by decide +kernel
theorem d_Tx_layInsertEdges_30 : decode prog_11_method_7_code 30 = .ok (.iload_n 2, 1) := by decide +kernel
theorem d_Tx_layInsertEdges_31 : decode prog_11_method_7_code 31 = .ok (.iconst 1, 1) := by decide +kernel
theorem d_Tx_layInsertEdges_32 : decode prog_11_method_7_code 32 = .ok (.isub, 1) := by decide +kernel
theorem d_Tx_layInsertEdges_33 : decode prog_11_method_7_code 33 = .ok (.iload_n 2, 1) := by decide +kernel
theorem d_Tx_layInsertEdges_34 : decode prog_11_method_7_code 34 = .ok (.invokevirtual 132, 3) := by decide +kernel
theorem d_Tx_layInsertEdges_37 : decode prog_11_method_7_code 37 = .ok (.goto 30, 3) := by decide +kernel
theorem d_Tx_layInsertEdges_40 : decode prog_11_method_7_code 40 = .ok (.aload_n 0, 1) := by decide +kernel
theorem d_Tx_layInsertEdges_41 : decode prog_11_method_7_code 41 = .ok (.getfield 49, 3) := by decide +kernel
theorem d_Tx_layInsertEdges_44 : decode prog_11_method_7_code 44 = .ok (.getfield 136, 3) := by decide +kernel
theorem d_Tx_layInsertEdges_47 : decode prog_11_method_7_code 47 = .ok (.iload_n 2, 1) := by decide +kernel
theorem d_Tx_layInsertEdges_48 : decode prog_11_method_7_code 48 = .ok (.iaload, 1) := by decide +kernel
theorem d_Tx_layInsertEdges_49 : decode prog_11_method_7_code 49 = .ok (.iconst (-1), 1) := by decide +kernel
theorem d_Tx_layInsertEdges_50 : decode prog_11_method_7_code 50 = .ok (.if_icmp .eq 17, 3) := by decide +kernel
theorem d_Tx_layInsertEdges_53 : decode prog_11_method_7_code 53 = .ok (.aload_n 0, 1) := by decide +kernel
theorem d_Tx_layInsertEdges_54 : decode prog_11_method_7_code 54 = .ok (.aload_n 0, 1) := by decide +kernel
theorem d_Tx_layInsertEdges_55 : decode prog_11_method_7_code 55 = .ok (.getfield 49, 3) := by decide +kernel
theorem d_Tx_layInsertEdges_58 : decode prog_11_method_7_code 58 = .ok (.getfield 136, 3) := by decide +kernel
theorem d_Tx_layInsertEdges_61 : decode prog_11_method_7_code 61 = .ok (.iload_n 2, 1) := by decide +kernel
theorem d_Tx_layInsertEdges_62 : decode prog_11_method_7_code 62 = .ok (.iaload, 1) := by decide +kernel
theorem d_Tx_layInsertEdges_63 : decode prog_11_method_7_code 63 = .ok (.iload_n 2, 1) := by decide +kernel
theorem d_Tx_layInsertEdges_64 : decode prog_11_method_7_code 64 = .ok (.invokevirtual 132, 3) := by decide +kernel
theorem d_Tx_layInsertEdges_67 : decode prog_11_method_7_code 67 = .ok (.aload_n 0, 1) := by decide +kernel
theorem d_Tx_layInsertEdges_68 : decode prog_11_method_7_code 68 = .ok (.getfield 49, 3) := by decide +kernel
theorem d_Tx_layInsertEdges_71 : decode prog_11_method_7_code 71 = .ok (.getfield 139, 3) := by decide +kernel
theorem d_Tx_layInsertEdges_74 : decode prog_11_method_7_code 74 = .ok (.iload_n 2, 1) := by decide +kernel
theorem d_Tx_layInsertEdges_75 : decode prog_11_method_7_code 75 = .ok (.iaload, 1) := by decide +kernel
theorem d_Tx_layInsertEdges_76 : decode prog_11_method_7_code 76 = .ok (.iconst (-1), 1) := by decide +kernel
theorem d_Tx_layInsertEdges_77 : decode prog_11_method_7_code 77 = .ok (.if_icmp .eq 25, 3) := by decide +kernel
theorem d_Tx_layInsertEdges_80 : decode prog_11_method_7_code 80 = .ok (.aload_n 0, 1) := by decide +kernel
theorem d_Tx_layInsertEdges_81 : decode prog_11_method_7_code 81 = .ok (.iload_n 2, 1) := by decide +kernel
theorem d_Tx_layInsertEdges_82 : decode prog_11_method_7_code 82 = .ok (.invokevirtual 142, 3) := by decide +kernel
theorem d_Tx_layInsertEdges_85 : decode prog_11_method_7_code 85 = .ok (.ifCond .eq 17, 3) := by decide +kernel
theorem d_Tx_layInsertEdges_88 : decode prog_11_method_7_code 88 = .ok (.aload_n 0, 1) := by decide +kernel
theorem d_Tx_layInsertEdges_89 : decode prog_11_method_7_code 89 = .ok (.iload_n 2, 1) := by decide +kernel
theorem d_Tx_layInsertEdges_90 : decode prog_11_method_7_code 90 = .ok (.aload_n 0, 1) := by decide +kernel
theorem d_Tx_layInsertEdges_91 : decode prog_11_method_7_code 91 = .ok (.getfield 49, 3) := by decide +kernel
theorem d_Tx_layInsertEdges_94 : decode prog_11_method_7_code 94 = .ok (.getfield 139, 3) := by decide +kernel
theorem d_Tx_layInsertEdges_97 : decode prog_11_method_7_code 97 = .ok (.iload_n 2, 1) := by decide +kernel
theorem d_Tx_layInsertEdges_98 : decode prog_11_method_7_code 98 = .ok (.iaload, 1) := by decide +kernel
theorem d_Tx_layInsertEdges_99 : decode prog_11_method_7_code 99 = .ok (.invokevirtual 132, 3) := by decide +kernel
theorem d_Tx_layInsertEdges_102 : decode prog_11_method_7_code 102 = .ok (.iinc 1 1, 3) := by decide +kernel
theorem d_Tx_layInsertEdges_105 : decode prog_11_method_7_code 105 = .ok (.goto (-103), 3) := by decide +kernel
theorem d_Tx_layInsertEdges_108 : decode prog_11_method_7_code 108 = .ok (.return_, 1) := by decide +kernel
/-- the rows of bits hold the relation -/
def bR (w : Nat → Int64) (n : Nat) (E : Nat → Nat → Prop) : Prop := ∀ a b, a < n → b < 448 → (btr w (a * 7) b = true ↔ E a b)
theorem btr_zero {w : Nat → Int64} {o b : Nat} (h : w (o + b / 64) = 0) : btr w o b = false := by
  unfold btr
  rw [h]
  show (0 : BitVec 64).getLsbD _ = false
  simp
theorem bR.zero {w : Nat → Int64} {n : Nat} (h : ∀ k, k < n * 7 → w k = 0) : bR w n (fun _ _ => False) := fun a b ha hb => by
  rw [btr_zero (h _ (by omega))]
  simp
theorem btr_in_ne (w : Nat → Int64) {o n o' k : Nat} (h : ¬ o' + k / 64 = o + n / 64) : btr (btr_in w o n) o' k = btr w o' k := by
  unfold btr
  rw [btr_in_out _ h]
theorem bR.add {w : Nat → Int64} {n sa sb : Nat} {E E' : Nat → Nat → Prop} (h : bR w n E) (hb2 : sb < 448) (e : ∀ a b, a < n → b < 448 → (E' a b ↔ E a b ∨ (a = sa ∧ b = sb))) : bR (btr_in w (sa * 7) sb) n E' := by
  intro a b ha hb
  rw [e a b ha hb]
  by_cases z : a = sa
  · subst z
    rw [btr_in_at, Bool.or_eq_true, h a b ha hb, decide_eq_true_iff]
    exact ⟨fun q => q.elim Or.inl (fun q => Or.inr ⟨rfl, q⟩), fun q => q.elim Or.inl (fun q => Or.inr q.2)⟩
  · rw [btr_in_ne _ (by omega), h a b ha hb]
    exact ⟨Or.inl, fun q => q.elim id (fun q => absurd q.1 z)⟩
theorem bR.iff {w : Nat → Int64} {n : Nat} {E E' : Nat → Nat → Prop} (h : bR w n E) (e : ∀ a b, a < n → b < 448 → (E a b ↔ E' a b)) : bR w n E' := fun a b ha hb => (h a b ha hb).trans (e a b ha hb)
/-- a relation of lines, as one of slots -/
def lE (L : List Nat) (Q : Nat → Nat → Prop) : Nat → Nat → Prop := fun a b => b < L.length ∧ Q (L.getD a 0) (L.getD b 0)
theorem slR.inj {sl : Nat → Int32} {L : List Nat} (h : slR sl L) (hl : L.length ≤ 400) {a b : Nat} (ha : a < L.length) (hb : b < L.length) (e : L.getD a 0 = L.getD b 0) : a = b := by
  have h1 := h a ha
  have h2 := h b hb
  rw [e, h2] at h1
  exact ((nI_eq (by omega) (by omega)).mp h1).symm
theorem mem_getD {L : List Nat} {x : Nat} (h : x ∈ L) : ∃ a, a < L.length ∧ L.getD a 0 = x := by
  obtain ⟨a, ha, e⟩ := List.mem_iff_getElem.mp h
  refine ⟨a, ha, ?_⟩
  rw [List.getD_eq_getElem?_getD, List.getElem?_eq_getElem ha, ← e]
  rfl
theorem lE_add {L : List Nat} {sl : Nat → Int32} {Q Q₇ : Nat → Nat → Prop} {sa sb : Nat} (h : slR sl L) (hl : L.length ≤ 400) (ha : sa < L.length) (hb : sb < L.length) (e : ∀ l m, Q₇ l m ↔ Q l m ∨ (l = L.getD sa 0 ∧ m = L.getD sb 0)) : ∀ a b, a < L.length → b < 448 → (lE L Q₇ a b ↔ lE L Q a b ∨ (a = sa ∧ b = sb)) := by
  intro a b ha2 hb2
  unfold lE
  rw [e]
  constructor
  · rintro ⟨z1, z2 | ⟨z2, z3⟩⟩
    · exact Or.inl ⟨z1, z2⟩
    · exact Or.inr ⟨h.inj hl ha2 ha z2, h.inj hl z1 hb z3⟩
  · rintro (⟨z1, z2⟩ | ⟨rfl, rfl⟩)
    · exact ⟨z1, Or.inl z2⟩
    · exact ⟨hb, Or.inr ⟨rfl, rfl⟩⟩
/-- the last line of its insert -/
def lastL (S : Stk) (x : Nat) : Prop := S.NLp S.P ≤ x + 1 ∨ S.lp (x + 1) = 0
/-- the edge to the line x, from the one in front of it or from its up -/
def eA (S : Stk) (x l m : Nat) : Prop := m = x ∧ ((¬ S.lp x = 0 ∧ l + 1 = x) ∨ (S.lp x = 0 ∧ S.lu x = nI l ∧ l < 4000))
/-- the edge from the last line x to its down -/
def eB (S : Stk) (x l m : Nat) : Prop := l = x ∧ lastL S x ∧ S.ld x = nI m ∧ m < 4000
/-- the edges that the line x brings -/
def eE (S : Stk) (x l m : Nat) : Prop := eA S x l m ∨ eB S x l m
/-- the edges that the first i lines bring -/
def iE (S : Stk) (L : List Nat) (i l m : Nat) : Prop := ∃ k, k < i ∧ eE S (L.getD k 0) l m
theorem iE_step {S : Stk} {L : List Nat} {i l m : Nat} : iE S L (i + 1) l m ↔ iE S L i l m ∨ eE S (L.getD i 0) l m := by
  constructor
  · rintro ⟨k, h1, h2⟩
    by_cases e : k = i
    · subst e; exact Or.inr h2
    · exact Or.inl ⟨k, by omega, h2⟩
  · rintro (⟨k, h1, h2⟩ | h)
    · exact ⟨k, by omega, h2⟩
    · exact ⟨i, by omega, h⟩
/-- the neighbours of the lines of the graph are lines of the graph -/
def grOK (S : Stk) (L : List Nat) : Prop := ∀ x, x ∈ L → x < S.NLp S.P ∧ (∃ pl, S.lp x = nI pl ∧ pl < 65536 ∧ (0 < pl → 1 ≤ x ∧ x - 1 ∈ L)) ∧ (S.lu x = -1 ∨ ∃ q, q ∈ L ∧ S.lu x = nI q) ∧ (S.ld x = -1 ∨ ∃ q, q ∈ L ∧ S.ld x = nI q)
theorem nI_no1 {n : Nat} (h : n < 2147483648) : ¬ (-1 : Int32) = nI n := by
  intro z
  have := congrArg Int32.toInt z
  rw [nI_toInt h] at this
  have h1 : (-1 : Int32).toInt = -1 := by decide
  omega
theorem eA_1 {S : Stk} {x : Nat} (h : ¬ S.lp x = 0) (hx : 1 ≤ x) (l m : Nat) : eA S x l m ↔ (l = x - 1 ∧ m = x) := by
  unfold eA
  constructor
  · rintro ⟨h1, ⟨_, h2⟩ | ⟨h2, _⟩⟩
    · exact ⟨by omega, h1⟩
    · exact absurd h2 h
  · rintro ⟨h1, h2⟩
    exact ⟨h2, Or.inl ⟨h, by omega⟩⟩
theorem eA_2 {S : Stk} {x : Nat} (h : S.lp x = 0) (hu : S.lu x = -1) (l m : Nat) : ¬ eA S x l m := by
  rintro ⟨h1, ⟨h2, _⟩ | ⟨_, h2, h3⟩⟩
  · exact h2 h
  · rw [hu] at h2
    exact nI_no1 (by omega) h2
theorem eA_3 {S : Stk} {x q : Nat} (h : S.lp x = 0) (hu : S.lu x = nI q) (hq : q < 4000) (l m : Nat) : eA S x l m ↔ (l = q ∧ m = x) := by
  unfold eA
  constructor
  · rintro ⟨h1, ⟨h2, _⟩ | ⟨_, h2, h3⟩⟩
    · exact absurd h h2
    · rw [hu] at h2
      exact ⟨((nI_eq (by omega) (by omega)).mp h2).symm, h1⟩
  · rintro ⟨rfl, h2⟩
    exact ⟨h2, Or.inr ⟨h, hu, hq⟩⟩
theorem eB_1 {S : Stk} {x : Nat} (hu : S.ld x = -1) (l m : Nat) : ¬ eB S x l m := by
  rintro ⟨_, _, h2, h3⟩
  rw [hu] at h2
  exact nI_no1 (by omega) h2
theorem eB_2 {S : Stk} {x : Nat} (h : ¬ lastL S x) (l m : Nat) : ¬ eB S x l m := fun z => h z.2.1
theorem eB_3 {S : Stk} {x q : Nat} (h : lastL S x) (hu : S.ld x = nI q) (hq : q < 4000) (l m : Nat) : eB S x l m ↔ (l = x ∧ m = q) := by
  unfold eB
  constructor
  · rintro ⟨h1, _, h2, h3⟩
    rw [hu] at h2
    exact ⟨h1, ((nI_eq (by omega) (by omega)).mp h2).symm⟩
  · rintro ⟨h1, rfl⟩
    exact ⟨h1, h, hu, hq⟩
theorem lE_or {L : List Nat} {Q C : Nat → Nat → Prop} (h : ∀ l m, ¬ C l m) (a b : Nat) : lE L Q a b ↔ lE L (fun l m => Q l m ∨ C l m) a b := ⟨fun z => ⟨z.1, Or.inl z.2⟩, fun z => ⟨z.1, z.2.elim id (fun w => absurd w (h _ _))⟩⟩
theorem lE_iE {S : Stk} {L : List Nat} {i : Nat} (a b : Nat) : lE L (fun l m => (iE S L i l m ∨ eA S (L.getD i 0) l m) ∨ eB S (L.getD i 0) l m) a b ↔ lE L (iE S L (i + 1)) a b := by
  constructor
  · rintro ⟨z, (h | h) | h⟩
    · exact ⟨z, iE_step.mpr (Or.inl h)⟩
    · exact ⟨z, iE_step.mpr (Or.inr (Or.inl h))⟩
    · exact ⟨z, iE_step.mpr (Or.inr (Or.inr h))⟩
  · rintro ⟨z, h⟩
    rcases iE_step.mp h with h | h | h
    · exact ⟨z, Or.inl (Or.inl h)⟩
    · exact ⟨z, Or.inl (Or.inr h)⟩
    · exact ⟨z, Or.inr h⟩
set_option maxHeartbeats 4000000 in
set_option maxRecDepth 100000 in
/-- the rows are cleared -/
theorem m_Tx_clearRows (l : Launch) (dC : Nat → ClassId) (dI : Nat → Nat → Nat) (cI cB cL cZ cR : ClassId) (h reA deA goA : Nat) (tx_order tx_length tx_size tx_unsure tx_stranded tx_dead tx_stock tx_changes tx_lines tx_loaded tx_version tx_loadedFile tx_rows tx_slots tx_waits : Value) (re de : Nat → Int64) (go : Nat → Int32) (nn : Nat) (sz : Nat) (hnn : nn ≤ 400) : Met l y_Tx_clearRows ws_Tx_clearRows ({ frames := 0, cells := 0, slots := 0, locals := 0 }) (xw_Pc dC dI [(cI, .int), (cB, .byte), (cL, .long), (cZ, .boolean), (cR, .object "PatchStore$Repository")] [.ref h] [(h, .inr (10, [tx_order, tx_length, tx_size, tx_unsure, tx_stranded, tx_dead, tx_stock, tx_changes, tx_lines, tx_loaded, tx_version, tx_loadedFile, tx_rows, tx_slots, .int (nI nn), .ref reA, .ref deA, .ref goA, tx_waits])), (reA, .inl (cL, 2800, .inr (.inl re))), (deA, .inl (cL, 3200, .inr (.inl de))), (goA, .inl (cI, 400, .inl go))] sz) (va_Qv (fun u : (Nat → Int64) × (Nat → Int64) × (Nat → Int32) => (∀ k, k < nn * 7 → u.1 k = 0) ∧ (∀ k, k < nn * 8 → u.2.1 k = 0) ∧ ∀ k, k < nn → u.2.2 k = 0) (fun u t => xw_B dC dI [(cI, .int), (cB, .byte), (cL, .long), (cZ, .boolean), (cR, .object "PatchStore$Repository")] (va_A [(h, .inr (10, [tx_order, tx_length, tx_size, tx_unsure, tx_stranded, tx_dead, tx_stock, tx_changes, tx_lines, tx_loaded, tx_version, tx_loadedFile, tx_rows, tx_slots, .int (nI nn), .ref reA, .ref deA, .ref goA, tx_waits])), (reA, .inl (cL, 2800, .inr (.inl re))), (deA, .inl (cL, 3200, .inr (.inl de))), (goA, .inl (cI, 400, .inl go))] sz) [(h, .inr (10, [tx_order, tx_length, tx_size, tx_unsure, tx_stranded, tx_dead, tx_stock, tx_changes, tx_lines, tx_loaded, tx_version, tx_loadedFile, tx_rows, tx_slots, .int (nI nn), .ref reA, .ref deA, .ref goA, tx_waits])), (reA, .inl (cL, 2800, .inr (.inl u.1))), (deA, .inl (cL, 3200, .inr (.inl u.2.1))), (goA, .inl (cI, 400, .inl u.2.2))] t) (va_A [(h, .inr (10, [tx_order, tx_length, tx_size, tx_unsure, tx_stranded, tx_dead, tx_stock, tx_changes, tx_lines, tx_loaded, tx_version, tx_loadedFile, tx_rows, tx_slots, .int (nI nn), .ref reA, .ref deA, .ref goA, tx_waits])), (reA, .inl (cL, 2800, .inr (.inl re))), (deA, .inl (cL, 3200, .inr (.inl de))), (goA, .inl (cI, 400, .inl go))] sz)) 0 0 (va_A [(h, .inr (10, [tx_order, tx_length, tx_size, tx_unsure, tx_stranded, tx_dead, tx_stock, tx_changes, tx_lines, tx_loaded, tx_version, tx_loadedFile, tx_rows, tx_slots, .int (nI nn), .ref reA, .ref deA, .ref goA, tx_waits])), (reA, .inl (cL, 2800, .inr (.inl re))), (deA, .inl (cL, 3200, .inr (.inl de))), (goA, .inl (cI, 400, .inl go))] sz) := by
  refine Met.ofW (cc := prog_11_method_6_code) (maxL := 2) (ret := none) (by decide) rfl ?_
  intro p e s m args below meth c s₁ B hml hv
  obtain ⟨rfl, hsz, hP, hK, hD0⟩ := hv
  have hx := B.exec
  have hb := B.bytes
  have hr := B.returns
  have hts0 := atoms_spec (ws := ws_Tx_clearRows) B.pre
  have hts : ∀ w ∈ xg_1, w.before _ s = true := fun w h => hts0 w (List.mem_cons_of_mem _ h)
  have hown : s.vm.findClass "PatchStore$Text" = some m.cls := findClass_of_methodNamed B.named
  have hlocks := B.notSynchronized
  subst hsz
  have hD := hD0.self (sz := s.heap.size)
  generalize hAe : va_A [(h, .inr (10, [tx_order, tx_length, tx_size, tx_unsure, tx_stranded, tx_dead, tx_stock, tx_changes, tx_lines, tx_loaded, tx_version, tx_loadedFile, tx_rows, tx_slots, .int (nI nn), .ref reA, .ref deA, .ref goA, tx_waits])), (reA, .inl (cL, 2800, .inr (.inl re))), (deA, .inl (cL, 3200, .inr (.inl de))), (goA, .inl (cI, 400, .inl go))] s.heap.size = A at hD ⊢
  have hA : ∀ q : Nat, s.heap.size ≤ q → A q := fun q h => by rw [← hAe]; exact Or.inr h
  have hS : va_S A s.heap s.heap [] := va_S.rf
  have hl := lv_entry ([.ref h]) (n := 2) (Nat.le_of_ble_eq_true rfl)
  rw [lg_entry_eq]
  generalize (lg_sl ([.ref h]) ++ List.replicate (2 - (lg_sl ([.ref h])).length) Slot.unset).toArray = ls at hl ⊢
  have hl : lv_has ls 2 [(0, .ref h)] := hl
  generalize hQe : MQ _ _ _ _ _ _ _ = Q
  refine lv_iconst (v := 0) hx hb d_Tx_clearRows_0 (by decide) ?_
  refine lv_istore_n (lv' := [(1, .int 0), (0, .ref h)]) hx hb d_Tx_clearRows_1 rfl hl (by decide) rfl (fun ls hl => ?_)
  have loop_2 : ∀ (n9 : Nat) (i : Nat) (reu : Nat → Int64) (H : Heap) (locs : List Loc) (ls : Array Slot), nn * 7 - i < n9 → (i ≤ nn * 7) → (∀ k, k < i → reu k = 0) → va_P (dC, dI) classes [(h, .inr (10, [tx_order, tx_length, tx_size, tx_unsure, tx_stranded, tx_dead, tx_stock, tx_changes, tx_lines, tx_loaded, tx_version, tx_loadedFile, tx_rows, tx_slots, .int (nI nn), .ref reA, .ref deA, .ref goA, tx_waits])), (reA, .inl (cL, 2800, .inr (.inl reu))), (deA, .inl (cL, 3200, .inr (.inl de))), (goA, .inl (cI, 400, .inl go))] H → va_D A [(h, .inr (10, [tx_order, tx_length, tx_size, tx_unsure, tx_stranded, tx_dead, tx_stock, tx_changes, tx_lines, tx_loaded, tx_version, tx_loadedFile, tx_rows, tx_slots, .int (nI nn), .ref reA, .ref deA, .ref goA, tx_waits])), (reA, .inl (cL, 2800, .inr (.inl reu))), (deA, .inl (cL, 3200, .inr (.inl de))), (goA, .inl (cI, 400, .inl go))] → va_S A s.heap H locs → lv_has ls 2 [(0, .ref h), (1, .int (nI i))] → W p l e (headSpec ws_Tx_clearRows ({ frames := 0, cells := 0, slots := 0, locals := 0 })).room s m ([.ref h] : List Value).toArray below meth c H locs 0 0 Q (F0 m 2 ls []) := by
    intro n9
    induction n9 with
    | zero => intro i reu H locs ls hm; exact absurd hm (Nat.not_lt_zero _)
    | succ n9 ih_2 =>
      intro i reu H locs ls hm hi h1 hP hD hS hl
      refine lv_iload_n hx hb d_Tx_clearRows_2 rfl (lv_at hl 1 rfl) ?_
      refine lv_aload_n hx hb d_Tx_clearRows_3 rfl (lv_at hl 0 rfl) ?_
      refine va_get (D := (dC, dI)) (ci := 10) (v := .int (nI nn)) (C := R_Tx) (T := F_Tx) (N := 19) hx hb hts i_Tx hown hK hP 0 rfl rfl 14 (by decide) (hts _ gw_396) (fun _ h9 => h9) rfl d_Tx_clearRows_4 ?_
      refine lv_bipush (v := 7) hx hb d_Tx_clearRows_7 (by decide) ?_
      refine lv_imul hx hb d_Tx_clearRows_9 ?_
      refine lv_topi (fun x_1 ex_1 => ?_)
      obtain rfl : x_1 = nI (nn * 7) := by rw [ex_1]; first | done | (exact nI_mul _ _)
      refine lv_icmp_ge (tgt := 26) hx hb d_Tx_clearRows_10 (by decide) (fun c_10 => ?_) (fun c_10 => ?_)
      · have n_10 : (nn * 7) ≤ i := (nI_leI (a := (nn * 7)) (b := i) (by omega) (by omega)).mp c_10
        have h1e : ∀ k, k < nn * 7 → reu k = 0 := fun k z => h1 k (by omega)
        refine lv_iconst (v := 0) hx hb d_Tx_clearRows_26 (by decide) ?_
        refine lv_istore_n (lv' := [(1, .int 0), (0, .ref h)]) hx hb d_Tx_clearRows_27 rfl hl (by decide) rfl (fun ls hl => ?_)
        have loop_28 : ∀ (n9 : Nat) (i : Nat) (deu : Nat → Int64) (H : Heap) (locs : List Loc) (ls : Array Slot), nn * 8 - i < n9 → (i ≤ nn * 8) → (∀ k, k < i → deu k = 0) → va_P (dC, dI) classes [(h, .inr (10, [tx_order, tx_length, tx_size, tx_unsure, tx_stranded, tx_dead, tx_stock, tx_changes, tx_lines, tx_loaded, tx_version, tx_loadedFile, tx_rows, tx_slots, .int (nI nn), .ref reA, .ref deA, .ref goA, tx_waits])), (reA, .inl (cL, 2800, .inr (.inl reu))), (deA, .inl (cL, 3200, .inr (.inl deu))), (goA, .inl (cI, 400, .inl go))] H → va_D A [(h, .inr (10, [tx_order, tx_length, tx_size, tx_unsure, tx_stranded, tx_dead, tx_stock, tx_changes, tx_lines, tx_loaded, tx_version, tx_loadedFile, tx_rows, tx_slots, .int (nI nn), .ref reA, .ref deA, .ref goA, tx_waits])), (reA, .inl (cL, 2800, .inr (.inl reu))), (deA, .inl (cL, 3200, .inr (.inl deu))), (goA, .inl (cI, 400, .inl go))] → va_S A s.heap H locs → lv_has ls 2 [(0, .ref h), (1, .int (nI i))] → W p l e (headSpec ws_Tx_clearRows ({ frames := 0, cells := 0, slots := 0, locals := 0 })).room s m ([.ref h] : List Value).toArray below meth c H locs 0 0 Q (F0 m 28 ls []) := by
          intro n9
          induction n9 with
          | zero => intro i deu H locs ls hm; exact absurd hm (Nat.not_lt_zero _)
          | succ n9 ih_28 =>
            intro i deu H locs ls hm hi h2 hP hD hS hl
            refine lv_iload_n hx hb d_Tx_clearRows_28 rfl (lv_at hl 1 rfl) ?_
            refine lv_aload_n hx hb d_Tx_clearRows_29 rfl (lv_at hl 0 rfl) ?_
            refine va_get (D := (dC, dI)) (ci := 10) (v := .int (nI nn)) (C := R_Tx) (T := F_Tx) (N := 19) hx hb hts i_Tx hown hK hP 0 rfl rfl 14 (by decide) (hts _ gw_396) (fun _ h9 => h9) rfl d_Tx_clearRows_30 ?_
            refine lv_bipush (v := 8) hx hb d_Tx_clearRows_33 (by decide) ?_
            refine lv_imul hx hb d_Tx_clearRows_35 ?_
            refine lv_topi (fun x_2 ex_2 => ?_)
            obtain rfl : x_2 = nI (nn * 8) := by rw [ex_2]; first | done | (exact nI_mul _ _)
            refine lv_icmp_ge (tgt := 52) hx hb d_Tx_clearRows_36 (by decide) (fun c_36 => ?_) (fun c_36 => ?_)
            · have n_36 : (nn * 8) ≤ i := (nI_leI (a := (nn * 8)) (b := i) (by omega) (by omega)).mp c_36
              have h2e : ∀ k, k < nn * 8 → deu k = 0 := fun k z => h2 k (by omega)
              refine lv_iconst (v := 0) hx hb d_Tx_clearRows_52 (by decide) ?_
              refine lv_istore_n (lv' := [(1, .int 0), (0, .ref h)]) hx hb d_Tx_clearRows_53 rfl hl (by decide) rfl (fun ls hl => ?_)
              have loop_54 : ∀ (n9 : Nat) (i : Nat) (gou : Nat → Int32) (H : Heap) (locs : List Loc) (ls : Array Slot), nn - i < n9 → (i ≤ nn) → (∀ k, k < i → gou k = 0) → va_P (dC, dI) classes [(h, .inr (10, [tx_order, tx_length, tx_size, tx_unsure, tx_stranded, tx_dead, tx_stock, tx_changes, tx_lines, tx_loaded, tx_version, tx_loadedFile, tx_rows, tx_slots, .int (nI nn), .ref reA, .ref deA, .ref goA, tx_waits])), (reA, .inl (cL, 2800, .inr (.inl reu))), (deA, .inl (cL, 3200, .inr (.inl deu))), (goA, .inl (cI, 400, .inl gou))] H → va_D A [(h, .inr (10, [tx_order, tx_length, tx_size, tx_unsure, tx_stranded, tx_dead, tx_stock, tx_changes, tx_lines, tx_loaded, tx_version, tx_loadedFile, tx_rows, tx_slots, .int (nI nn), .ref reA, .ref deA, .ref goA, tx_waits])), (reA, .inl (cL, 2800, .inr (.inl reu))), (deA, .inl (cL, 3200, .inr (.inl deu))), (goA, .inl (cI, 400, .inl gou))] → va_S A s.heap H locs → lv_has ls 2 [(0, .ref h), (1, .int (nI i))] → W p l e (headSpec ws_Tx_clearRows ({ frames := 0, cells := 0, slots := 0, locals := 0 })).room s m ([.ref h] : List Value).toArray below meth c H locs 0 0 Q (F0 m 54 ls []) := by
                intro n9
                induction n9 with
                | zero => intro i gou H locs ls hm; exact absurd hm (Nat.not_lt_zero _)
                | succ n9 ih_54 =>
                  intro i gou H locs ls hm hi h3 hP hD hS hl
                  refine lv_iload_n hx hb d_Tx_clearRows_54 rfl (lv_at hl 1 rfl) ?_
                  refine lv_aload_n hx hb d_Tx_clearRows_55 rfl (lv_at hl 0 rfl) ?_
                  refine va_get (D := (dC, dI)) (ci := 10) (v := .int (nI nn)) (C := R_Tx) (T := F_Tx) (N := 19) hx hb hts i_Tx hown hK hP 0 rfl rfl 14 (by decide) (hts _ gw_396) (fun _ h9 => h9) rfl d_Tx_clearRows_56 ?_
                  refine lv_icmp_ge (tgt := 75) hx hb d_Tx_clearRows_59 (by decide) (fun c_59 => ?_) (fun c_59 => ?_)
                  · have n_59 : nn ≤ i := (nI_leI (a := nn) (b := i) (by omega) (by omega)).mp c_59
                    rw [← hQe]
                    exact W.vret hx hb hr (fun t ht hW => ⟨⟨(reu, deu, gou), rfl, ⟨h1e, h2e, fun k z => h3 k (by omega)⟩, by rw [ht]; exact hP, va_K.moved hW.alike hK, hD⟩, hS.F ht⟩) hS.2.2 d_Tx_clearRows_75
                  · have n_59 : i < nn := Nat.lt_of_not_le (fun z => c_59 ((nI_leI (a := nn) (b := i) (by omega) (by omega)).mpr z))
                    refine lv_aload_n hx hb d_Tx_clearRows_62 rfl (lv_at hl 0 rfl) ?_
                    refine va_get (D := (dC, dI)) (ci := 10) (v := .ref goA) (C := R_Tx) (T := F_Tx) (N := 19) hx hb hts i_Tx hown hK hP 0 rfl rfl 17 (by decide) (hts _ gw_399) (fun _ h9 => h9) rfl d_Tx_clearRows_63 ?_
                    refine lv_iload_n hx hb d_Tx_clearRows_66 rfl (lv_at hl 1 rfl) ?_
                    refine lv_iconst (v := 0) hx hb d_Tx_clearRows_67 (by decide) ?_
                    refine va_iast hx hb hK hP hD hS 3 0 rfl rfl (vp_in_nI (by omega) (by omega)) d_Tx_clearRows_68 (fun H locs hP hD hS => ?_)
                    rw [show (nI i).toNatClampNeg = i from nI_clamp (by omega)] at hP hD
                    have hP : va_P (dC, dI) classes [(h, .inr (10, [tx_order, tx_length, tx_size, tx_unsure, tx_stranded, tx_dead, tx_stock, tx_changes, tx_lines, tx_loaded, tx_version, tx_loadedFile, tx_rows, tx_slots, .int (nI nn), .ref reA, .ref deA, .ref goA, tx_waits])), (reA, .inl (cL, 2800, .inr (.inl reu))), (deA, .inl (cL, 3200, .inr (.inl deu))), (goA, .inl (cI, 400, .inl (upd gou i 0)))] H := hP
                    have hD : va_D A [(h, .inr (10, [tx_order, tx_length, tx_size, tx_unsure, tx_stranded, tx_dead, tx_stock, tx_changes, tx_lines, tx_loaded, tx_version, tx_loadedFile, tx_rows, tx_slots, .int (nI nn), .ref reA, .ref deA, .ref goA, tx_waits])), (reA, .inl (cL, 2800, .inr (.inl reu))), (deA, .inl (cL, 3200, .inr (.inl deu))), (goA, .inl (cI, 400, .inl (upd gou i 0)))] := hD
                    refine lv_iinc (v := nI (i + 1)) (lv' := [(1, .int (nI (i + 1))), (0, .ref h)]) hx hb d_Tx_clearRows_69 hl (k := 1) rfl (by exact nI_add _ _) (by decide) rfl (fun ls hl => ?_)
                    refine lv_goto (tgt := 54) hx hb d_Tx_clearRows_72 (by decide) ?_
                    exact ih_54 (i + 1) (upd gou i 0) _ _ _ (by omega) (by omega) (fun k z => if e9 : k = i then by rw [e9, upd_eq] else (upd_ne _ e9).trans (h3 k (by omega))) hP hD hS (lv_sub hl [1, 0] rfl)
              exact loop_54 _ 0 go _ _ _ (Nat.lt_succ_self _) (Nat.zero_le _) (fun k z => absurd z (Nat.not_lt_zero _)) hP hD hS (lv_sub hl [1, 0] rfl)
            · have n_36 : i < (nn * 8) := Nat.lt_of_not_le (fun z => c_36 ((nI_leI (a := (nn * 8)) (b := i) (by omega) (by omega)).mpr z))
              refine lv_aload_n hx hb d_Tx_clearRows_39 rfl (lv_at hl 0 rfl) ?_
              refine va_get (D := (dC, dI)) (ci := 10) (v := .ref deA) (C := R_Tx) (T := F_Tx) (N := 19) hx hb hts i_Tx hown hK hP 0 rfl rfl 16 (by decide) (hts _ gw_398) (fun _ h9 => h9) rfl d_Tx_clearRows_40 ?_
              refine lv_iload_n hx hb d_Tx_clearRows_43 rfl (lv_at hl 1 rfl) ?_
              refine lv_lconst (v := 0) hx hb d_Tx_clearRows_44 (by decide) ?_
              refine va_last hx hb hK hP hD hS 2 2 rfl rfl (vp_in_nI (by omega) (by omega)) d_Tx_clearRows_45 (fun H locs hP hD hS => ?_)
              rw [show (nI i).toNatClampNeg = i from nI_clamp (by omega)] at hP hD
              have hP : va_P (dC, dI) classes [(h, .inr (10, [tx_order, tx_length, tx_size, tx_unsure, tx_stranded, tx_dead, tx_stock, tx_changes, tx_lines, tx_loaded, tx_version, tx_loadedFile, tx_rows, tx_slots, .int (nI nn), .ref reA, .ref deA, .ref goA, tx_waits])), (reA, .inl (cL, 2800, .inr (.inl reu))), (deA, .inl (cL, 3200, .inr (.inl (vp_updL deu i 0)))), (goA, .inl (cI, 400, .inl go))] H := hP
              have hD : va_D A [(h, .inr (10, [tx_order, tx_length, tx_size, tx_unsure, tx_stranded, tx_dead, tx_stock, tx_changes, tx_lines, tx_loaded, tx_version, tx_loadedFile, tx_rows, tx_slots, .int (nI nn), .ref reA, .ref deA, .ref goA, tx_waits])), (reA, .inl (cL, 2800, .inr (.inl reu))), (deA, .inl (cL, 3200, .inr (.inl (vp_updL deu i 0)))), (goA, .inl (cI, 400, .inl go))] := hD
              refine lv_iinc (v := nI (i + 1)) (lv' := [(1, .int (nI (i + 1))), (0, .ref h)]) hx hb d_Tx_clearRows_46 hl (k := 1) rfl (by exact nI_add _ _) (by decide) rfl (fun ls hl => ?_)
              refine lv_goto (tgt := 28) hx hb d_Tx_clearRows_49 (by decide) ?_
              exact ih_28 (i + 1) (vp_updL deu i 0) _ _ _ (by omega) (by omega) (fun k z => if e9 : k = i then by rw [e9, vpL_eq] else (vpL_ne _ e9).trans (h2 k (by omega))) hP hD hS (lv_sub hl [1, 0] rfl)
        exact loop_28 _ 0 de _ _ _ (Nat.lt_succ_self _) (Nat.zero_le _) (fun k z => absurd z (Nat.not_lt_zero _)) hP hD hS (lv_sub hl [1, 0] rfl)
      · have n_10 : i < (nn * 7) := Nat.lt_of_not_le (fun z => c_10 ((nI_leI (a := (nn * 7)) (b := i) (by omega) (by omega)).mpr z))
        refine lv_aload_n hx hb d_Tx_clearRows_13 rfl (lv_at hl 0 rfl) ?_
        refine va_get (D := (dC, dI)) (ci := 10) (v := .ref reA) (C := R_Tx) (T := F_Tx) (N := 19) hx hb hts i_Tx hown hK hP 0 rfl rfl 15 (by decide) (hts _ gw_397) (fun _ h9 => h9) rfl d_Tx_clearRows_14 ?_
        refine lv_iload_n hx hb d_Tx_clearRows_17 rfl (lv_at hl 1 rfl) ?_
        refine lv_lconst (v := 0) hx hb d_Tx_clearRows_18 (by decide) ?_
        refine va_last hx hb hK hP hD hS 1 2 rfl rfl (vp_in_nI (by omega) (by omega)) d_Tx_clearRows_19 (fun H locs hP hD hS => ?_)
        rw [show (nI i).toNatClampNeg = i from nI_clamp (by omega)] at hP hD
        have hP : va_P (dC, dI) classes [(h, .inr (10, [tx_order, tx_length, tx_size, tx_unsure, tx_stranded, tx_dead, tx_stock, tx_changes, tx_lines, tx_loaded, tx_version, tx_loadedFile, tx_rows, tx_slots, .int (nI nn), .ref reA, .ref deA, .ref goA, tx_waits])), (reA, .inl (cL, 2800, .inr (.inl (vp_updL reu i 0)))), (deA, .inl (cL, 3200, .inr (.inl de))), (goA, .inl (cI, 400, .inl go))] H := hP
        have hD : va_D A [(h, .inr (10, [tx_order, tx_length, tx_size, tx_unsure, tx_stranded, tx_dead, tx_stock, tx_changes, tx_lines, tx_loaded, tx_version, tx_loadedFile, tx_rows, tx_slots, .int (nI nn), .ref reA, .ref deA, .ref goA, tx_waits])), (reA, .inl (cL, 2800, .inr (.inl (vp_updL reu i 0)))), (deA, .inl (cL, 3200, .inr (.inl de))), (goA, .inl (cI, 400, .inl go))] := hD
        refine lv_iinc (v := nI (i + 1)) (lv' := [(1, .int (nI (i + 1))), (0, .ref h)]) hx hb d_Tx_clearRows_20 hl (k := 1) rfl (by exact nI_add _ _) (by decide) rfl (fun ls hl => ?_)
        refine lv_goto (tgt := 2) hx hb d_Tx_clearRows_23 (by decide) ?_
        exact ih_2 (i + 1) (vp_updL reu i 0) _ _ _ (by omega) (by omega) (fun k z => if e9 : k = i then by rw [e9, vpL_eq] else (vpL_ne _ e9).trans (h1 k (by omega))) hP hD hS (lv_sub hl [1, 0] rfl)
  exact loop_2 _ 0 re _ _ _ (Nat.lt_succ_self _) (Nat.zero_le _) (fun k z => absurd z (Nat.not_lt_zero _)) hP hD hS (lv_sub hl [1, 0] rfl)
set_option maxHeartbeats 4000000 in
set_option maxRecDepth 100000 in
/-- an edge is laid -/
theorem m_Tx_layEdge (l : Launch) (dC : Nat → ClassId) (dI : Nat → Nat → Nat) (cI cB cL cZ cR : ClassId) (h tsA reA : Nat) (tx_order tx_length tx_size tx_unsure tx_stranded tx_dead tx_stock tx_changes tx_lines tx_loaded tx_version tx_loadedFile tx_rows tx_total tx_deleters tx_gone tx_waits : Value) (sl : Nat → Int32) (re : Nat → Int64) (l1 l2 sa sb : Nat) (sz : Nat) (hl1 : l1 < 4000) (hl2 : l2 < 4000) (hsa : sl l1 = nI sa) (hsb : sl l2 = nI sb) (ha4 : sa < 400) (hb4 : sb < 400) : Met l y_Tx_layEdge ws_Tx_layEdge ({ frames := 0, cells := 0, slots := 0, locals := 0 }) (xw_Pc dC dI [(cI, .int), (cB, .byte), (cL, .long), (cZ, .boolean), (cR, .object "PatchStore$Repository")] [.ref h, .int (nI l1), .int (nI l2)] [(h, .inr (10, [tx_order, tx_length, tx_size, tx_unsure, tx_stranded, tx_dead, tx_stock, tx_changes, tx_lines, tx_loaded, tx_version, tx_loadedFile, tx_rows, .ref tsA, tx_total, .ref reA, tx_deleters, tx_gone, tx_waits])), (tsA, .inl (cI, 4000, .inl sl)), (reA, .inl (cL, 2800, .inr (.inl re)))] sz) (va_Qv (fun _ : Unit => True) (fun _ t => xw_B dC dI [(cI, .int), (cB, .byte), (cL, .long), (cZ, .boolean), (cR, .object "PatchStore$Repository")] (va_A [(h, .inr (10, [tx_order, tx_length, tx_size, tx_unsure, tx_stranded, tx_dead, tx_stock, tx_changes, tx_lines, tx_loaded, tx_version, tx_loadedFile, tx_rows, .ref tsA, tx_total, .ref reA, tx_deleters, tx_gone, tx_waits])), (tsA, .inl (cI, 4000, .inl sl)), (reA, .inl (cL, 2800, .inr (.inl re)))] sz) [(h, .inr (10, [tx_order, tx_length, tx_size, tx_unsure, tx_stranded, tx_dead, tx_stock, tx_changes, tx_lines, tx_loaded, tx_version, tx_loadedFile, tx_rows, .ref tsA, tx_total, .ref reA, tx_deleters, tx_gone, tx_waits])), (tsA, .inl (cI, 4000, .inl sl)), (reA, .inl (cL, 2800, .inr (.inl (btr_in re (sa * 7) sb))))] t) (va_A [(h, .inr (10, [tx_order, tx_length, tx_size, tx_unsure, tx_stranded, tx_dead, tx_stock, tx_changes, tx_lines, tx_loaded, tx_version, tx_loadedFile, tx_rows, .ref tsA, tx_total, .ref reA, tx_deleters, tx_gone, tx_waits])), (tsA, .inl (cI, 4000, .inl sl)), (reA, .inl (cL, 2800, .inr (.inl re)))] sz)) 0 0 (va_A [(h, .inr (10, [tx_order, tx_length, tx_size, tx_unsure, tx_stranded, tx_dead, tx_stock, tx_changes, tx_lines, tx_loaded, tx_version, tx_loadedFile, tx_rows, .ref tsA, tx_total, .ref reA, tx_deleters, tx_gone, tx_waits])), (tsA, .inl (cI, 4000, .inl sl)), (reA, .inl (cL, 2800, .inr (.inl re)))] sz) := by
  refine Met.ofW (cc := prog_11_method_9_code) (maxL := 4) (ret := none) (by decide) rfl ?_
  intro p e s m args below meth c s₁ B hml hv
  obtain ⟨rfl, hsz, hP, hK, hD0⟩ := hv
  have hx := B.exec
  have hb := B.bytes
  have hr := B.returns
  have hts0 := atoms_spec (ws := ws_Tx_layEdge) B.pre
  have hts : ∀ w ∈ xg_1, w.before _ s = true := fun w h => hts0 w (List.mem_cons_of_mem _ h)
  have hown : s.vm.findClass "PatchStore$Text" = some m.cls := findClass_of_methodNamed B.named
  have hlocks := B.notSynchronized
  subst hsz
  have hD := hD0.self (sz := s.heap.size)
  generalize hAe : va_A [(h, .inr (10, [tx_order, tx_length, tx_size, tx_unsure, tx_stranded, tx_dead, tx_stock, tx_changes, tx_lines, tx_loaded, tx_version, tx_loadedFile, tx_rows, .ref tsA, tx_total, .ref reA, tx_deleters, tx_gone, tx_waits])), (tsA, .inl (cI, 4000, .inl sl)), (reA, .inl (cL, 2800, .inr (.inl re)))] s.heap.size = A at hD ⊢
  have hA : ∀ q : Nat, s.heap.size ≤ q → A q := fun q h => by rw [← hAe]; exact Or.inr h
  have hS : va_S A s.heap s.heap [] := va_S.rf
  have hl := lv_entry ([.ref h, .int (nI l1), .int (nI l2)]) (n := 4) (Nat.le_of_ble_eq_true rfl)
  rw [lg_entry_eq]
  generalize (lg_sl ([.ref h, .int (nI l1), .int (nI l2)]) ++ List.replicate (4 - (lg_sl ([.ref h, .int (nI l1), .int (nI l2)])).length) Slot.unset).toArray = ls at hl ⊢
  have hl : lv_has ls 4 [(0, .ref h), (1, .int (nI l1)), (2, .int (nI l2))] := hl
  refine lv_aload_n hx hb d_Tx_layEdge_0 rfl (lv_at hl 0 rfl) ?_
  refine va_get (D := (dC, dI)) (ci := 10) (v := .ref tsA) (C := R_Tx) (T := F_Tx) (N := 19) hx hb hts i_Tx hown hK hP 0 rfl rfl 13 (by decide) (hts _ gw_395) (fun _ h9 => h9) rfl d_Tx_layEdge_1 ?_
  refine lv_iload_n hx hb d_Tx_layEdge_4 rfl (lv_at hl 2 rfl) ?_
  refine va_iald hx hb hK hP 1 0 rfl rfl (vp_in_nI (by omega) (by omega)) d_Tx_layEdge_5 ?_
  rw [show (nI l2).toNatClampNeg = l2 from nI_clamp (by omega)]
  refine lv_topi (fun x_1 ex_1 => ?_)
  obtain rfl : x_1 = nI sb := by rw [ex_1]; first | done | (exact hsb)
  refine lv_istore_n (lv' := [(3, .int (nI sb)), (0, .ref h), (1, .int (nI l1)), (2, .int (nI l2))]) hx hb d_Tx_layEdge_6 rfl hl (by decide) rfl (fun ls hl => ?_)
  refine lv_aload_n hx hb d_Tx_layEdge_7 rfl (lv_at hl 1 rfl) ?_
  refine va_get (D := (dC, dI)) (ci := 10) (v := .ref reA) (C := R_Tx) (T := F_Tx) (N := 19) hx hb hts i_Tx hown hK hP 0 rfl rfl 15 (by decide) (hts _ gw_397) (fun _ h9 => h9) rfl d_Tx_layEdge_8 ?_
  refine lv_aload_n hx hb d_Tx_layEdge_11 rfl (lv_at hl 1 rfl) ?_
  refine va_get (D := (dC, dI)) (ci := 10) (v := .ref tsA) (C := R_Tx) (T := F_Tx) (N := 19) hx hb hts i_Tx hown hK hP 0 rfl rfl 13 (by decide) (hts _ gw_395) (fun _ h9 => h9) rfl d_Tx_layEdge_12 ?_
  refine lv_iload_n hx hb d_Tx_layEdge_15 rfl (lv_at hl 2 rfl) ?_
  refine va_iald hx hb hK hP 1 0 rfl rfl (vp_in_nI (by omega) (by omega)) d_Tx_layEdge_16 ?_
  rw [show (nI l1).toNatClampNeg = l1 from nI_clamp (by omega)]
  refine lv_topi (fun x_2 ex_2 => ?_)
  obtain rfl : x_2 = nI sa := by rw [ex_2]; first | done | (exact hsa)
  refine lv_bipush (v := 7) hx hb d_Tx_layEdge_17 (by decide) ?_
  refine lv_imul hx hb d_Tx_layEdge_19 ?_
  refine lv_topi (fun x_3 ex_3 => ?_)
  obtain rfl : x_3 = nI (sa * 7) := by rw [ex_3]; first | done | (exact nI_mul _ _)
  refine lv_iload_n hx hb d_Tx_layEdge_20 rfl (lv_at hl 0 rfl) ?_
  refine lv_bipush (v := 6) hx hb d_Tx_layEdge_21 (by decide) ?_
  refine lv_ishr hx hb d_Tx_layEdge_23 ?_
  refine lv_topi (fun x_4 ex_4 => ?_)
  obtain rfl : x_4 = nI (sb / 64) := by rw [ex_4]; first | done | (exact pk_shrN (by omega) _ 6 (by decide))
  refine lv_iadd hx hb d_Tx_layEdge_24 ?_
  refine lv_topi (fun x_5 ex_5 => ?_)
  obtain rfl : x_5 = nI ((sa * 7) + (sb / 64)) := by rw [ex_5]; first | done | (exact nI_add _ _)
  refine lv_dup2_11 hx hb d_Tx_layEdge_25 rfl rfl ?_
  refine va_lald hx hb hK hP 2 2 rfl rfl (vp_in_nI (by omega) (by omega)) d_Tx_layEdge_26 ?_
  rw [show (nI ((sa * 7) + (sb / 64))).toNatClampNeg = ((sa * 7) + (sb / 64)) from nI_clamp (by omega)]
  refine lv_lconst (v := 1) hx hb d_Tx_layEdge_27 (by decide) ?_
  refine lv_iload_n hx hb d_Tx_layEdge_28 rfl (lv_at hl 0 rfl) ?_
  refine lv_bipush (v := 63) hx hb d_Tx_layEdge_29 (by decide) ?_
  refine lv_iand hx hb d_Tx_layEdge_31 ?_
  refine lv_topi (fun x_6 ex_6 => ?_)
  obtain rfl : x_6 = nI (sb % 64) := by rw [ex_6]; first | done | (exact pk_andN (by omega) 6 (by decide))
  refine lv_lshl hx hb d_Tx_layEdge_32 rfl ?_
  refine lv_lor hx hb d_Tx_layEdge_33 ?_
  refine va_last hx hb hK hP hD hS 2 2 rfl rfl (vp_in_nI (by omega) (by omega)) d_Tx_layEdge_34 (fun H locs hP hD hS => ?_)
  rw [show (nI ((sa * 7) + (sb / 64))).toNatClampNeg = ((sa * 7) + (sb / 64)) from nI_clamp (by omega)] at hP hD
  have hP : va_P (dC, dI) classes [(h, .inr (10, [tx_order, tx_length, tx_size, tx_unsure, tx_stranded, tx_dead, tx_stock, tx_changes, tx_lines, tx_loaded, tx_version, tx_loadedFile, tx_rows, .ref tsA, tx_total, .ref reA, tx_deleters, tx_gone, tx_waits])), (tsA, .inl (cI, 4000, .inl sl)), (reA, .inl (cL, 2800, .inr (.inl (vp_updL re ((sa * 7) + (sb / 64)) ((re ((sa * 7) + (sb / 64))) ||| (1 <<< ((nI (sb % 64) : Int32).toInt64 &&& 63)))))))] H := hP
  have hD : va_D A [(h, .inr (10, [tx_order, tx_length, tx_size, tx_unsure, tx_stranded, tx_dead, tx_stock, tx_changes, tx_lines, tx_loaded, tx_version, tx_loadedFile, tx_rows, .ref tsA, tx_total, .ref reA, tx_deleters, tx_gone, tx_waits])), (tsA, .inl (cI, 4000, .inl sl)), (reA, .inl (cL, 2800, .inr (.inl (vp_updL re ((sa * 7) + (sb / 64)) ((re ((sa * 7) + (sb / 64))) ||| (1 <<< ((nI (sb % 64) : Int32).toInt64 &&& 63)))))))] := hD
  exact W.vret hx hb hr (fun t ht hW => ⟨⟨(), rfl, trivial, by rw [ht]; exact hP, va_K.moved hW.alike hK, hD⟩, hS.F ht⟩) hS.2.2 d_Tx_layEdge_35
set_option maxHeartbeats 4000000 in
set_option maxRecDepth 100000 in
/-- whether a line is the last of its insert -/
theorem m_Tx_isLast (l : Launch) (dC : Nat → ClassId) (dI : Nat → Nat → Nat) (cI cB cL cZ cR : ClassId) (h ln lpA : Nat) (tx_order tx_length tx_size tx_unsure tx_stranded tx_dead tx_stock tx_changes tx_loaded tx_version tx_loadedFile tx_rows tx_slots tx_total tx_reach tx_deleters tx_gone tx_waits ln_at ln_length ln_change ln_up ln_down ln_ofFile : Value) (S : Stk) (x1 : Nat) (sz : Nat) (hx1 : x1 < S.NLp S.P) (hnl4 : S.NLp S.P ≤ 4000) : Met l y_Tx_isLastOfInsert ws_Tx_isLastOfInsert ({ frames := 0, cells := 0, slots := 0, locals := 0 }) (xw_Pc dC dI [(cI, .int), (cB, .byte), (cL, .long), (cZ, .boolean), (cR, .object "PatchStore$Repository")] [.ref h, .int (nI x1)] [(h, .inr (10, [tx_order, tx_length, tx_size, tx_unsure, tx_stranded, tx_dead, tx_stock, tx_changes, .ref ln, tx_loaded, tx_version, tx_loadedFile, tx_rows, tx_slots, tx_total, tx_reach, tx_deleters, tx_gone, tx_waits])), (ln, .inr (4, [ln_at, ln_length, ln_change, .ref lpA, ln_up, ln_down, ln_ofFile, .int (nI (S.NLp S.P))])), (lpA, .inl (cI, 4000, .inl S.lp))] sz) (va_Qi (fun (r : Int32) (_ : Unit) => (r = 1 ∧ lastL S x1) ∨ (r = 0 ∧ ¬ lastL S x1)) (fun _ t => xw_B dC dI [(cI, .int), (cB, .byte), (cL, .long), (cZ, .boolean), (cR, .object "PatchStore$Repository")] (va_A [(h, .inr (10, [tx_order, tx_length, tx_size, tx_unsure, tx_stranded, tx_dead, tx_stock, tx_changes, .ref ln, tx_loaded, tx_version, tx_loadedFile, tx_rows, tx_slots, tx_total, tx_reach, tx_deleters, tx_gone, tx_waits])), (ln, .inr (4, [ln_at, ln_length, ln_change, .ref lpA, ln_up, ln_down, ln_ofFile, .int (nI (S.NLp S.P))])), (lpA, .inl (cI, 4000, .inl S.lp))] sz) [(h, .inr (10, [tx_order, tx_length, tx_size, tx_unsure, tx_stranded, tx_dead, tx_stock, tx_changes, .ref ln, tx_loaded, tx_version, tx_loadedFile, tx_rows, tx_slots, tx_total, tx_reach, tx_deleters, tx_gone, tx_waits])), (ln, .inr (4, [ln_at, ln_length, ln_change, .ref lpA, ln_up, ln_down, ln_ofFile, .int (nI (S.NLp S.P))])), (lpA, .inl (cI, 4000, .inl S.lp))] t) (va_A [(h, .inr (10, [tx_order, tx_length, tx_size, tx_unsure, tx_stranded, tx_dead, tx_stock, tx_changes, .ref ln, tx_loaded, tx_version, tx_loadedFile, tx_rows, tx_slots, tx_total, tx_reach, tx_deleters, tx_gone, tx_waits])), (ln, .inr (4, [ln_at, ln_length, ln_change, .ref lpA, ln_up, ln_down, ln_ofFile, .int (nI (S.NLp S.P))])), (lpA, .inl (cI, 4000, .inl S.lp))] sz)) 0 0 (va_A [(h, .inr (10, [tx_order, tx_length, tx_size, tx_unsure, tx_stranded, tx_dead, tx_stock, tx_changes, .ref ln, tx_loaded, tx_version, tx_loadedFile, tx_rows, tx_slots, tx_total, tx_reach, tx_deleters, tx_gone, tx_waits])), (ln, .inr (4, [ln_at, ln_length, ln_change, .ref lpA, ln_up, ln_down, ln_ofFile, .int (nI (S.NLp S.P))])), (lpA, .inl (cI, 4000, .inl S.lp))] sz) := by
  refine Met.ofW (cc := prog_11_method_8_code) (maxL := 2) (ret := (Option.some Jvm.ClassFile.FieldType.boolean)) (by decide) rfl ?_
  intro p e s m args below meth c s₁ B hml hv
  obtain ⟨rfl, hsz, hP, hK, hD0⟩ := hv
  have hx := B.exec
  have hb := B.bytes
  have hr := B.returns
  have hts0 := atoms_spec (ws := ws_Tx_isLastOfInsert) B.pre
  have hts : ∀ w ∈ xg_1, w.before _ s = true := fun w h => hts0 w (List.mem_cons_of_mem _ h)
  have hown : s.vm.findClass "PatchStore$Text" = some m.cls := findClass_of_methodNamed B.named
  have hlocks := B.notSynchronized
  subst hsz
  have hD := hD0.self (sz := s.heap.size)
  generalize hAe : va_A [(h, .inr (10, [tx_order, tx_length, tx_size, tx_unsure, tx_stranded, tx_dead, tx_stock, tx_changes, .ref ln, tx_loaded, tx_version, tx_loadedFile, tx_rows, tx_slots, tx_total, tx_reach, tx_deleters, tx_gone, tx_waits])), (ln, .inr (4, [ln_at, ln_length, ln_change, .ref lpA, ln_up, ln_down, ln_ofFile, .int (nI (S.NLp S.P))])), (lpA, .inl (cI, 4000, .inl S.lp))] s.heap.size = A at hD ⊢
  have hA : ∀ q : Nat, s.heap.size ≤ q → A q := fun q h => by rw [← hAe]; exact Or.inr h
  have hS : va_S A s.heap s.heap [] := va_S.rf
  have hl := lv_entry ([.ref h, .int (nI x1)]) (n := 2) (Nat.le_of_ble_eq_true rfl)
  rw [lg_entry_eq]
  generalize (lg_sl ([.ref h, .int (nI x1)]) ++ List.replicate (2 - (lg_sl ([.ref h, .int (nI x1)])).length) Slot.unset).toArray = ls at hl ⊢
  have hl : lv_has ls 2 [(0, .ref h), (1, .int (nI x1))] := hl
  refine lv_iload_n hx hb d_Tx_isLastOfInsert_0 rfl (lv_at hl 1 rfl) ?_
  refine lv_iconst (v := 1) hx hb d_Tx_isLastOfInsert_1 (by decide) ?_
  refine lv_iadd hx hb d_Tx_isLastOfInsert_2 ?_
  refine lv_topi (fun x_1 ex_1 => ?_)
  obtain rfl : x_1 = nI (x1 + 1) := by rw [ex_1]; first | done | (exact nI_add _ _)
  refine lv_aload_n hx hb d_Tx_isLastOfInsert_3 rfl (lv_at hl 0 rfl) ?_
  refine va_get (D := (dC, dI)) (ci := 10) (v := .ref ln) (C := R_Tx) (T := F_Tx) (N := 19) hx hb hts i_Tx hown hK hP 0 rfl rfl 8 (by decide) (hts _ gw_390) (fun _ h9 => h9) rfl d_Tx_isLastOfInsert_4 ?_
  refine va_get (D := (dC, dI)) (ci := 4) (v := .int (nI (S.NLp S.P))) (C := R_Li) (T := F_Li) (N := 8) hx hb hts i_Li hown hK hP 1 rfl rfl 7 (by decide) (hts _ gw_163) (fun _ h9 => h9) rfl d_Tx_isLastOfInsert_7 ?_
  refine lv_icmp_ge (tgt := 27) hx hb d_Tx_isLastOfInsert_10 (by decide) (fun c_10 => ?_) (fun c_10 => ?_)
  · have n_10 : (S.NLp S.P) ≤ (x1 + 1) := (nI_leI (a := (S.NLp S.P)) (b := (x1 + 1)) (by omega) (by omega)).mp c_10
    have hla : lastL S x1 := Or.inl n_10
    refine lv_iconst (v := 1) hx hb d_Tx_isLastOfInsert_27 (by decide) ?_
    refine lv_goto (tgt := 32) hx hb d_Tx_isLastOfInsert_28 (by decide) ?_
    exact W.zret (v := 1) hx hb hr nz_b1 (fun t ht hW => ⟨⟨_, (), rfl, Or.inl ⟨rfl, hla⟩, by rw [ht]; exact hP, va_K.moved hW.alike hK, hD⟩, hS.F ht⟩) hS.2.2 d_Tx_isLastOfInsert_32
  · have n_10 : (x1 + 1) < (S.NLp S.P) := Nat.lt_of_not_le (fun z => c_10 ((nI_leI (a := (S.NLp S.P)) (b := (x1 + 1)) (by omega) (by omega)).mpr z))
    refine lv_aload_n hx hb d_Tx_isLastOfInsert_13 rfl (lv_at hl 0 rfl) ?_
    refine va_get (D := (dC, dI)) (ci := 10) (v := .ref ln) (C := R_Tx) (T := F_Tx) (N := 19) hx hb hts i_Tx hown hK hP 0 rfl rfl 8 (by decide) (hts _ gw_390) (fun _ h9 => h9) rfl d_Tx_isLastOfInsert_14 ?_
    refine va_get (D := (dC, dI)) (ci := 4) (v := .ref lpA) (C := R_Li) (T := F_Li) (N := 8) hx hb hts i_Li hown hK hP 1 rfl rfl 3 (by decide) (hts _ gw_150) (fun _ h9 => h9) rfl d_Tx_isLastOfInsert_17 ?_
    refine lv_iload_n hx hb d_Tx_isLastOfInsert_20 rfl (lv_at hl 1 rfl) ?_
    refine lv_iconst (v := 1) hx hb d_Tx_isLastOfInsert_21 (by decide) ?_
    refine lv_iadd hx hb d_Tx_isLastOfInsert_22 ?_
    refine lv_topi (fun x_2 ex_2 => ?_)
    obtain rfl : x_2 = nI (x1 + 1) := by rw [ex_2]; first | done | (exact nI_add _ _)
    refine va_iald hx hb hK hP 2 0 rfl rfl (vp_in_nI (by omega) (by omega)) d_Tx_isLastOfInsert_23 ?_
    rw [show (nI (x1 + 1)).toNatClampNeg = (x1 + 1) from nI_clamp (by omega)]
    refine lv_if_ne (tgt := 31) hx hb d_Tx_isLastOfInsert_24 (by decide) (fun c_24 => ?_) (fun c_24 => ?_)
    · have hnl : ¬ lastL S x1 := fun z => z.elim (fun z => absurd z (by omega)) (fun z => c_24 z)
      refine lv_iconst (v := 0) hx hb d_Tx_isLastOfInsert_31 (by decide) ?_
      exact W.zret (v := 0) hx hb hr nz_b0 (fun t ht hW => ⟨⟨_, (), rfl, Or.inr ⟨rfl, hnl⟩, by rw [ht]; exact hP, va_K.moved hW.alike hK, hD⟩, hS.F ht⟩) hS.2.2 d_Tx_isLastOfInsert_32
    · have hla : lastL S x1 := Or.inr c_24
      refine lv_iconst (v := 1) hx hb d_Tx_isLastOfInsert_27 (by decide) ?_
      refine lv_goto (tgt := 32) hx hb d_Tx_isLastOfInsert_28 (by decide) ?_
      exact W.zret (v := 1) hx hb hr nz_b1 (fun t ht hW => ⟨⟨_, (), rfl, Or.inl ⟨rfl, hla⟩, by rw [ht]; exact hP, va_K.moved hW.alike hK, hD⟩, hS.F ht⟩) hS.2.2 d_Tx_isLastOfInsert_32
set_option maxHeartbeats 4000000 in
set_option maxRecDepth 100000 in
/-- whether a slot reaches another -/
theorem m_Tx_reaches (l : Launch) (dC : Nat → ClassId) (dI : Nat → Nat → Nat) (cI cB cL cZ cR : ClassId) (h reA : Nat) (tx_order tx_length tx_size tx_unsure tx_stranded tx_dead tx_stock tx_changes tx_lines tx_loaded tx_version tx_loadedFile tx_rows tx_slots tx_total tx_deleters tx_gone tx_waits : Value) (re : Nat → Int64) (pa pb9 : Nat) (sz : Nat) (hpa : pa < 400) (hpb : pb9 < 448) : Met l y_Tx_reaches ws_Tx_reaches ({ frames := 0, cells := 0, slots := 0, locals := 0 }) (xw_Pc dC dI [(cI, .int), (cB, .byte), (cL, .long), (cZ, .boolean), (cR, .object "PatchStore$Repository")] [.ref h, .int (nI pa), .int (nI pb9)] [(h, .inr (10, [tx_order, tx_length, tx_size, tx_unsure, tx_stranded, tx_dead, tx_stock, tx_changes, tx_lines, tx_loaded, tx_version, tx_loadedFile, tx_rows, tx_slots, tx_total, .ref reA, tx_deleters, tx_gone, tx_waits])), (reA, .inl (cL, 2800, .inr (.inl re)))] sz) (va_Qi (fun (r : Int32) (_ : Unit) => (r = 1 ∧ btr re (pa * 7) pb9 = true) ∨ (r = 0 ∧ btr re (pa * 7) pb9 = false)) (fun _ t => xw_B dC dI [(cI, .int), (cB, .byte), (cL, .long), (cZ, .boolean), (cR, .object "PatchStore$Repository")] (va_A [(h, .inr (10, [tx_order, tx_length, tx_size, tx_unsure, tx_stranded, tx_dead, tx_stock, tx_changes, tx_lines, tx_loaded, tx_version, tx_loadedFile, tx_rows, tx_slots, tx_total, .ref reA, tx_deleters, tx_gone, tx_waits])), (reA, .inl (cL, 2800, .inr (.inl re)))] sz) [(h, .inr (10, [tx_order, tx_length, tx_size, tx_unsure, tx_stranded, tx_dead, tx_stock, tx_changes, tx_lines, tx_loaded, tx_version, tx_loadedFile, tx_rows, tx_slots, tx_total, .ref reA, tx_deleters, tx_gone, tx_waits])), (reA, .inl (cL, 2800, .inr (.inl re)))] t) (va_A [(h, .inr (10, [tx_order, tx_length, tx_size, tx_unsure, tx_stranded, tx_dead, tx_stock, tx_changes, tx_lines, tx_loaded, tx_version, tx_loadedFile, tx_rows, tx_slots, tx_total, .ref reA, tx_deleters, tx_gone, tx_waits])), (reA, .inl (cL, 2800, .inr (.inl re)))] sz)) 0 0 (va_A [(h, .inr (10, [tx_order, tx_length, tx_size, tx_unsure, tx_stranded, tx_dead, tx_stock, tx_changes, tx_lines, tx_loaded, tx_version, tx_loadedFile, tx_rows, tx_slots, tx_total, .ref reA, tx_deleters, tx_gone, tx_waits])), (reA, .inl (cL, 2800, .inr (.inl re)))] sz) := by
  refine Met.ofW (cc := prog_11_method_12_code) (maxL := 3) (ret := (Option.some Jvm.ClassFile.FieldType.boolean)) (by decide) rfl ?_
  intro p e s m args below meth c s₁ B hml hv
  obtain ⟨rfl, hsz, hP, hK, hD0⟩ := hv
  have hx := B.exec
  have hb := B.bytes
  have hr := B.returns
  have hts0 := atoms_spec (ws := ws_Tx_reaches) B.pre
  have hts : ∀ w ∈ xg_1, w.before _ s = true := fun w h => hts0 w (List.mem_cons_of_mem _ h)
  have hown : s.vm.findClass "PatchStore$Text" = some m.cls := findClass_of_methodNamed B.named
  have hlocks := B.notSynchronized
  subst hsz
  have hD := hD0.self (sz := s.heap.size)
  generalize hAe : va_A [(h, .inr (10, [tx_order, tx_length, tx_size, tx_unsure, tx_stranded, tx_dead, tx_stock, tx_changes, tx_lines, tx_loaded, tx_version, tx_loadedFile, tx_rows, tx_slots, tx_total, .ref reA, tx_deleters, tx_gone, tx_waits])), (reA, .inl (cL, 2800, .inr (.inl re)))] s.heap.size = A at hD ⊢
  have hA : ∀ q : Nat, s.heap.size ≤ q → A q := fun q h => by rw [← hAe]; exact Or.inr h
  have hS : va_S A s.heap s.heap [] := va_S.rf
  have hl := lv_entry ([.ref h, .int (nI pa), .int (nI pb9)]) (n := 3) (Nat.le_of_ble_eq_true rfl)
  rw [lg_entry_eq]
  generalize (lg_sl ([.ref h, .int (nI pa), .int (nI pb9)]) ++ List.replicate (3 - (lg_sl ([.ref h, .int (nI pa), .int (nI pb9)])).length) Slot.unset).toArray = ls at hl ⊢
  have hl : lv_has ls 3 [(0, .ref h), (1, .int (nI pa)), (2, .int (nI pb9))] := hl
  refine lv_aload_n hx hb d_Tx_reaches_0 rfl (lv_at hl 0 rfl) ?_
  refine va_get (D := (dC, dI)) (ci := 10) (v := .ref reA) (C := R_Tx) (T := F_Tx) (N := 19) hx hb hts i_Tx hown hK hP 0 rfl rfl 15 (by decide) (hts _ gw_397) (fun _ h9 => h9) rfl d_Tx_reaches_1 ?_
  refine lv_iload_n hx hb d_Tx_reaches_4 rfl (lv_at hl 1 rfl) ?_
  refine lv_bipush (v := 7) hx hb d_Tx_reaches_5 (by decide) ?_
  refine lv_imul hx hb d_Tx_reaches_7 ?_
  refine lv_topi (fun x_1 ex_1 => ?_)
  obtain rfl : x_1 = nI (pa * 7) := by rw [ex_1]; first | done | (exact nI_mul _ _)
  refine lv_iload_n hx hb d_Tx_reaches_8 rfl (lv_at hl 2 rfl) ?_
  refine lv_bipush (v := 6) hx hb d_Tx_reaches_9 (by decide) ?_
  refine lv_ishr hx hb d_Tx_reaches_11 ?_
  refine lv_topi (fun x_2 ex_2 => ?_)
  obtain rfl : x_2 = nI (pb9 / 64) := by rw [ex_2]; first | done | (exact pk_shrN (by omega) _ 6 (by decide))
  refine lv_iadd hx hb d_Tx_reaches_12 ?_
  refine lv_topi (fun x_3 ex_3 => ?_)
  obtain rfl : x_3 = nI ((pa * 7) + (pb9 / 64)) := by rw [ex_3]; first | done | (exact nI_add _ _)
  refine va_lald hx hb hK hP 1 2 rfl rfl (vp_in_nI (by omega) (by omega)) d_Tx_reaches_13 ?_
  rw [show (nI ((pa * 7) + (pb9 / 64))).toNatClampNeg = ((pa * 7) + (pb9 / 64)) from nI_clamp (by omega)]
  refine lv_iload_n hx hb d_Tx_reaches_14 rfl (lv_at hl 2 rfl) ?_
  refine lv_bipush (v := 63) hx hb d_Tx_reaches_15 (by decide) ?_
  refine lv_iand hx hb d_Tx_reaches_17 ?_
  refine lv_topi (fun x_4 ex_4 => ?_)
  obtain rfl : x_4 = nI (pb9 % 64) := by rw [ex_4]; first | done | (exact pk_andN (by omega) 6 (by decide))
  refine lv_lshr hx hb d_Tx_reaches_18 rfl ?_
  refine lv_lconst (v := 1) hx hb d_Tx_reaches_19 (by decide) ?_
  refine lv_land hx hb d_Tx_reaches_20 ?_
  refine lv_lconst (v := 0) hx hb d_Tx_reaches_21 (by decide) ?_
  refine W.lcmp hx hb d_Tx_reaches_22 ?_
  refine lv_if_eq (tgt := 30) hx hb d_Tx_reaches_23 (by decide) (fun c_23 => ?_) (fun c_23 => ?_)
  · refine lv_iconst (v := 0) hx hb d_Tx_reaches_30 (by decide) ?_
    exact W.zret (v := 0) hx hb hr nz_b0 (fun t ht hW => ⟨⟨_, (), rfl, Or.inr ⟨rfl, (bt_get _ _ (Nat.mod_lt _ (by decide))).mp c_23⟩, by rw [ht]; exact hP, va_K.moved hW.alike hK, hD⟩, hS.F ht⟩) hS.2.2 d_Tx_reaches_31
  · refine lv_iconst (v := 1) hx hb d_Tx_reaches_26 (by decide) ?_
    refine lv_goto (tgt := 31) hx hb d_Tx_reaches_27 (by decide) ?_
    exact W.zret (v := 1) hx hb hr nz_b1 (fun t ht hW => ⟨⟨_, (), rfl, Or.inl ⟨rfl, eq_true_of_ne_false (fun z => c_23 ((bt_get _ _ (Nat.mod_lt _ (by decide))).mpr z))⟩, by rw [ht]; exact hP, va_K.moved hW.alike hK, hD⟩, hS.F ht⟩) hS.2.2 d_Tx_reaches_31
set_option maxHeartbeats 4000000 in
set_option maxRecDepth 100000 in
/-- the edges of the inserts -/
theorem m_Tx_layInsert (l : Launch) (dC : Nat → ClassId) (dI : Nat → Nat → Nat) (cI cB cL cZ cR : ClassId) (h ln lpA luA ldA trA tsA reA : Nat) (tx_order tx_length tx_size tx_unsure tx_stranded tx_dead tx_stock tx_changes tx_loaded tx_version tx_loadedFile tx_deleters tx_gone tx_waits ln_at ln_length ln_change ln_ofFile : Value) (S : Stk) (rw9 sl : Nat → Int32) (re : Nat → Int64) (L : List Nat) (sz : Nat) (hrw : arrL rw9 L) (hsl : slR sl L) (hL4 : L.length ≤ 400) (hnl4 : S.NLp S.P ≤ 4000) (hgr : grOK S L) (hq0 : bR re L.length (fun _ _ => False)) : Met l y_Tx_layInsertEdges ws_Tx_layInsertEdges ({ frames := 1, cells := 0, slots := 0, locals := 80 }) (xw_Pc dC dI [(cI, .int), (cB, .byte), (cL, .long), (cZ, .boolean), (cR, .object "PatchStore$Repository")] [.ref h] [(h, .inr (10, [tx_order, tx_length, tx_size, tx_unsure, tx_stranded, tx_dead, tx_stock, tx_changes, .ref ln, tx_loaded, tx_version, tx_loadedFile, .ref trA, .ref tsA, .int (nI L.length), .ref reA, tx_deleters, tx_gone, tx_waits])), (ln, .inr (4, [ln_at, ln_length, ln_change, .ref lpA, .ref luA, .ref ldA, ln_ofFile, .int (nI (S.NLp S.P))])), (lpA, .inl (cI, 4000, .inl S.lp)), (luA, .inl (cI, 4000, .inl S.lu)), (ldA, .inl (cI, 4000, .inl S.ld)), (trA, .inl (cI, 400, .inl rw9)), (tsA, .inl (cI, 4000, .inl sl)), (reA, .inl (cL, 2800, .inr (.inl re)))] sz) (va_Qv (fun u : Nat → Int64 => bR u L.length (lE L (iE S L L.length))) (fun u t => xw_B dC dI [(cI, .int), (cB, .byte), (cL, .long), (cZ, .boolean), (cR, .object "PatchStore$Repository")] (va_A [(h, .inr (10, [tx_order, tx_length, tx_size, tx_unsure, tx_stranded, tx_dead, tx_stock, tx_changes, .ref ln, tx_loaded, tx_version, tx_loadedFile, .ref trA, .ref tsA, .int (nI L.length), .ref reA, tx_deleters, tx_gone, tx_waits])), (ln, .inr (4, [ln_at, ln_length, ln_change, .ref lpA, .ref luA, .ref ldA, ln_ofFile, .int (nI (S.NLp S.P))])), (lpA, .inl (cI, 4000, .inl S.lp)), (luA, .inl (cI, 4000, .inl S.lu)), (ldA, .inl (cI, 4000, .inl S.ld)), (trA, .inl (cI, 400, .inl rw9)), (tsA, .inl (cI, 4000, .inl sl)), (reA, .inl (cL, 2800, .inr (.inl re)))] sz) [(h, .inr (10, [tx_order, tx_length, tx_size, tx_unsure, tx_stranded, tx_dead, tx_stock, tx_changes, .ref ln, tx_loaded, tx_version, tx_loadedFile, .ref trA, .ref tsA, .int (nI L.length), .ref reA, tx_deleters, tx_gone, tx_waits])), (ln, .inr (4, [ln_at, ln_length, ln_change, .ref lpA, .ref luA, .ref ldA, ln_ofFile, .int (nI (S.NLp S.P))])), (lpA, .inl (cI, 4000, .inl S.lp)), (luA, .inl (cI, 4000, .inl S.lu)), (ldA, .inl (cI, 4000, .inl S.ld)), (trA, .inl (cI, 400, .inl rw9)), (tsA, .inl (cI, 4000, .inl sl)), (reA, .inl (cL, 2800, .inr (.inl u)))] t) (va_A [(h, .inr (10, [tx_order, tx_length, tx_size, tx_unsure, tx_stranded, tx_dead, tx_stock, tx_changes, .ref ln, tx_loaded, tx_version, tx_loadedFile, .ref trA, .ref tsA, .int (nI L.length), .ref reA, tx_deleters, tx_gone, tx_waits])), (ln, .inr (4, [ln_at, ln_length, ln_change, .ref lpA, .ref luA, .ref ldA, ln_ofFile, .int (nI (S.NLp S.P))])), (lpA, .inl (cI, 4000, .inl S.lp)), (luA, .inl (cI, 4000, .inl S.lu)), (ldA, .inl (cI, 4000, .inl S.ld)), (trA, .inl (cI, 400, .inl rw9)), (tsA, .inl (cI, 4000, .inl sl)), (reA, .inl (cL, 2800, .inr (.inl re)))] sz)) 0 0 (va_A [(h, .inr (10, [tx_order, tx_length, tx_size, tx_unsure, tx_stranded, tx_dead, tx_stock, tx_changes, .ref ln, tx_loaded, tx_version, tx_loadedFile, .ref trA, .ref tsA, .int (nI L.length), .ref reA, tx_deleters, tx_gone, tx_waits])), (ln, .inr (4, [ln_at, ln_length, ln_change, .ref lpA, .ref luA, .ref ldA, ln_ofFile, .int (nI (S.NLp S.P))])), (lpA, .inl (cI, 4000, .inl S.lp)), (luA, .inl (cI, 4000, .inl S.lu)), (ldA, .inl (cI, 4000, .inl S.ld)), (trA, .inl (cI, 400, .inl rw9)), (tsA, .inl (cI, 4000, .inl sl)), (reA, .inl (cL, 2800, .inr (.inl re)))] sz) := by
  refine Met.ofW (cc := prog_11_method_7_code) (maxL := 3) (ret := none) (by decide) rfl ?_
  intro p e s m args below meth c s₁ B hml hv
  obtain ⟨rfl, hsz, hP, hK, hD0⟩ := hv
  have hx := B.exec
  have hb := B.bytes
  have hr := B.returns
  have hts0 := atoms_spec (ws := ws_Tx_layInsertEdges) B.pre
  have hts : ∀ w ∈ xg_1, w.before _ s = true := fun w h => hts0 w (List.mem_cons_of_mem _ h)
  have hown : s.vm.findClass "PatchStore$Text" = some m.cls := findClass_of_methodNamed B.named
  have hlocks := B.notSynchronized
  subst hsz
  have hD := hD0.self (sz := s.heap.size)
  generalize hAe : va_A [(h, .inr (10, [tx_order, tx_length, tx_size, tx_unsure, tx_stranded, tx_dead, tx_stock, tx_changes, .ref ln, tx_loaded, tx_version, tx_loadedFile, .ref trA, .ref tsA, .int (nI L.length), .ref reA, tx_deleters, tx_gone, tx_waits])), (ln, .inr (4, [ln_at, ln_length, ln_change, .ref lpA, .ref luA, .ref ldA, ln_ofFile, .int (nI (S.NLp S.P))])), (lpA, .inl (cI, 4000, .inl S.lp)), (luA, .inl (cI, 4000, .inl S.lu)), (ldA, .inl (cI, 4000, .inl S.ld)), (trA, .inl (cI, 400, .inl rw9)), (tsA, .inl (cI, 4000, .inl sl)), (reA, .inl (cL, 2800, .inr (.inl re)))] s.heap.size = A at hD ⊢
  have hA : ∀ q : Nat, s.heap.size ≤ q → A q := fun q h => by rw [← hAe]; exact Or.inr h
  have hS : va_S A s.heap s.heap [] := va_S.rf
  have hl := lv_entry ([.ref h]) (n := 3) (Nat.le_of_ble_eq_true rfl)
  rw [lg_entry_eq]
  generalize (lg_sl ([.ref h]) ++ List.replicate (3 - (lg_sl ([.ref h])).length) Slot.unset).toArray = ls at hl ⊢
  have hl : lv_has ls 3 [(0, .ref h)] := hl
  generalize hQe : MQ _ _ _ _ _ _ _ = Q
  refine lv_iconst (v := 0) hx hb d_Tx_layInsertEdges_0 (by decide) ?_
  refine lv_istore_n (lv' := [(1, .int 0), (0, .ref h)]) hx hb d_Tx_layInsertEdges_1 rfl hl (by decide) rfl (fun ls hl => ?_)
  have loop_2 : ∀ (n9 : Nat) (i : Nat) (reu : Nat → Int64) (H : Heap) (locs : List Loc) (ls : Array Slot), L.length - i < n9 → (i ≤ L.length) → (bR reu L.length (lE L (iE S L i))) → va_P (dC, dI) classes [(h, .inr (10, [tx_order, tx_length, tx_size, tx_unsure, tx_stranded, tx_dead, tx_stock, tx_changes, .ref ln, tx_loaded, tx_version, tx_loadedFile, .ref trA, .ref tsA, .int (nI L.length), .ref reA, tx_deleters, tx_gone, tx_waits])), (ln, .inr (4, [ln_at, ln_length, ln_change, .ref lpA, .ref luA, .ref ldA, ln_ofFile, .int (nI (S.NLp S.P))])), (lpA, .inl (cI, 4000, .inl S.lp)), (luA, .inl (cI, 4000, .inl S.lu)), (ldA, .inl (cI, 4000, .inl S.ld)), (trA, .inl (cI, 400, .inl rw9)), (tsA, .inl (cI, 4000, .inl sl)), (reA, .inl (cL, 2800, .inr (.inl reu)))] H → va_D A [(h, .inr (10, [tx_order, tx_length, tx_size, tx_unsure, tx_stranded, tx_dead, tx_stock, tx_changes, .ref ln, tx_loaded, tx_version, tx_loadedFile, .ref trA, .ref tsA, .int (nI L.length), .ref reA, tx_deleters, tx_gone, tx_waits])), (ln, .inr (4, [ln_at, ln_length, ln_change, .ref lpA, .ref luA, .ref ldA, ln_ofFile, .int (nI (S.NLp S.P))])), (lpA, .inl (cI, 4000, .inl S.lp)), (luA, .inl (cI, 4000, .inl S.lu)), (ldA, .inl (cI, 4000, .inl S.ld)), (trA, .inl (cI, 400, .inl rw9)), (tsA, .inl (cI, 4000, .inl sl)), (reA, .inl (cL, 2800, .inr (.inl reu)))] → va_S A s.heap H locs → lv_has ls 3 [(0, .ref h), (1, .int (nI i))] → W p l e (headSpec ws_Tx_layInsertEdges ({ frames := 1, cells := 0, slots := 0, locals := 80 })).room s m ([.ref h] : List Value).toArray below meth c H locs 0 0 Q (F0 m 2 ls []) := by
    intro n9
    induction n9 with
    | zero => intro i reu H locs ls hm; exact absurd hm (Nat.not_lt_zero _)
    | succ n9 ih_2 =>
      intro i reu H locs ls hm hi hq hP hD hS hl
      refine lv_iload_n hx hb d_Tx_layInsertEdges_2 rfl (lv_at hl 1 rfl) ?_
      refine lv_aload_n hx hb d_Tx_layInsertEdges_3 rfl (lv_at hl 0 rfl) ?_
      refine va_get (D := (dC, dI)) (ci := 10) (v := .int (nI L.length)) (C := R_Tx) (T := F_Tx) (N := 19) hx hb hts i_Tx hown hK hP 0 rfl rfl 14 (by decide) (hts _ gw_396) (fun _ h9 => h9) rfl d_Tx_layInsertEdges_4 ?_
      refine lv_icmp_ge (tgt := 108) hx hb d_Tx_layInsertEdges_7 (by decide) (fun c_7 => ?_) (fun c_7 => ?_)
      · have n_7 : L.length ≤ i := (nI_leI (a := L.length) (b := i) (by omega) (by omega)).mp c_7
        rw [← hQe]
        exact W.vret hx hb hr (fun t ht hW => ⟨⟨reu, rfl, (by rw [show i = L.length by omega] at hq; exact hq), by rw [ht]; exact hP, va_K.moved hW.alike hK, hD⟩, hS.F ht⟩) hS.2.2 d_Tx_layInsertEdges_108
      · have n_7 : i < L.length := Nat.lt_of_not_le (fun z => c_7 ((nI_leI (a := L.length) (b := i) (by omega) (by omega)).mpr z))
        have hxm := getD_mem n_7
        have hgx := hgr _ hxm
        obtain ⟨hgx1, ⟨pl, hpl1, hpl2, hpl3⟩, hup, hdn⟩ := id hgx
        refine lv_aload_n hx hb d_Tx_layInsertEdges_10 rfl (lv_at hl 0 rfl) ?_
        refine va_get (D := (dC, dI)) (ci := 10) (v := .ref trA) (C := R_Tx) (T := F_Tx) (N := 19) hx hb hts i_Tx hown hK hP 0 rfl rfl 12 (by decide) (hts _ gw_394) (fun _ h9 => h9) rfl d_Tx_layInsertEdges_11 ?_
        refine lv_iload_n hx hb d_Tx_layInsertEdges_14 rfl (lv_at hl 1 rfl) ?_
        refine va_iald hx hb hK hP 5 0 rfl rfl (vp_in_nI (by omega) (by omega)) d_Tx_layInsertEdges_15 ?_
        rw [show (nI i).toNatClampNeg = i from nI_clamp (by omega)]
        refine lv_topi (fun x_1 ex_1 => ?_)
        obtain rfl : x_1 = nI (L.getD i 0) := by rw [ex_1]; first | done | (exact hrw i n_7)
        refine lv_istore_n (lv' := [(2, .int (nI (L.getD i 0))), (0, .ref h), (1, .int (nI i))]) hx hb d_Tx_layInsertEdges_16 rfl hl (by decide) rfl (fun ls hl => ?_)
        refine lv_aload_n hx hb d_Tx_layInsertEdges_17 rfl (lv_at hl 1 rfl) ?_
        refine va_get (D := (dC, dI)) (ci := 10) (v := .ref ln) (C := R_Tx) (T := F_Tx) (N := 19) hx hb hts i_Tx hown hK hP 0 rfl rfl 8 (by decide) (hts _ gw_390) (fun _ h9 => h9) rfl d_Tx_layInsertEdges_18 ?_
        refine va_get (D := (dC, dI)) (ci := 4) (v := .ref lpA) (C := R_Li) (T := F_Li) (N := 8) hx hb hts i_Li hown hK hP 1 rfl rfl 3 (by decide) (hts _ gw_150) (fun _ h9 => h9) rfl d_Tx_layInsertEdges_21 ?_
        refine lv_iload_n hx hb d_Tx_layInsertEdges_24 rfl (lv_at hl 0 rfl) ?_
        refine va_iald hx hb hK hP 2 0 rfl rfl (vp_in_nI (by omega) (by omega)) d_Tx_layInsertEdges_25 ?_
        rw [show (nI (L.getD i 0)).toNatClampNeg = (L.getD i 0) from nI_clamp (by omega)]
        refine lv_topi (fun x_2 ex_2 => ?_)
        obtain rfl : x_2 = nI pl := by rw [ex_2]; first | done | (exact hpl1)
        refine lv_if_le (tgt := 40) hx hb d_Tx_layInsertEdges_26 (by decide) (fun c_26 => ?_) (fun c_26 => ?_)
        · have n_26 : pl ≤ 0 := (nI_leI (a := pl) (b := 0) (by omega) (by omega)).mp c_26
          have hp0 : S.lp (L.getD i 0) = 0 := by rw [hpl1, show pl = 0 by omega]; rfl
          rcases hup with hup | ⟨u9, hu1, hup⟩
          · skip
            refine lv_aload_n hx hb d_Tx_layInsertEdges_40 rfl (lv_at hl 1 rfl) ?_
            refine va_get (D := (dC, dI)) (ci := 10) (v := .ref ln) (C := R_Tx) (T := F_Tx) (N := 19) hx hb hts i_Tx hown hK hP 0 rfl rfl 8 (by decide) (hts _ gw_390) (fun _ h9 => h9) rfl d_Tx_layInsertEdges_41 ?_
            refine va_get (D := (dC, dI)) (ci := 4) (v := .ref luA) (C := R_Li) (T := F_Li) (N := 8) hx hb hts i_Li hown hK hP 1 rfl rfl 4 (by decide) (hts _ gw_155) (fun _ h9 => h9) rfl d_Tx_layInsertEdges_44 ?_
            refine lv_iload_n hx hb d_Tx_layInsertEdges_47 rfl (lv_at hl 0 rfl) ?_
            refine va_iald hx hb hK hP 3 0 rfl rfl (vp_in_nI (by omega) (by omega)) d_Tx_layInsertEdges_48 ?_
            rw [show (nI (L.getD i 0)).toNatClampNeg = (L.getD i 0) from nI_clamp (by omega)]
            refine lv_topi (fun x_3 ex_3 => ?_)
            obtain rfl : x_3 = (-1) := by rw [ex_3]; first | done | (exact hup)
            refine lv_iconst (v := (-1)) hx hb d_Tx_layInsertEdges_49 (by decide) ?_
            refine lv_icmp_eq (tgt := 67) hx hb d_Tx_layInsertEdges_50 (by decide) (fun _ => ?_) (fun c_50 => absurd (by decide) c_50)
            have hq1 : bR reu L.length (lE L (fun l m => iE S L i l m ∨ eA S (L.getD i 0) l m)) := hq.iff (fun a b _ _ => lE_or (eA_2 hp0 hup) a b)
            rcases hdn with hdn | ⟨d9, hd1, hdn⟩
            · skip
              refine lv_aload_n hx hb d_Tx_layInsertEdges_67 rfl (lv_at hl 1 rfl) ?_
              refine va_get (D := (dC, dI)) (ci := 10) (v := .ref ln) (C := R_Tx) (T := F_Tx) (N := 19) hx hb hts i_Tx hown hK hP 0 rfl rfl 8 (by decide) (hts _ gw_390) (fun _ h9 => h9) rfl d_Tx_layInsertEdges_68 ?_
              refine va_get (D := (dC, dI)) (ci := 4) (v := .ref ldA) (C := R_Li) (T := F_Li) (N := 8) hx hb hts i_Li hown hK hP 1 rfl rfl 5 (by decide) (hts _ gw_158) (fun _ h9 => h9) rfl d_Tx_layInsertEdges_71 ?_
              refine lv_iload_n hx hb d_Tx_layInsertEdges_74 rfl (lv_at hl 0 rfl) ?_
              refine va_iald hx hb hK hP 4 0 rfl rfl (vp_in_nI (by omega) (by omega)) d_Tx_layInsertEdges_75 ?_
              rw [show (nI (L.getD i 0)).toNatClampNeg = (L.getD i 0) from nI_clamp (by omega)]
              refine lv_topi (fun x_4 ex_4 => ?_)
              obtain rfl : x_4 = (-1) := by rw [ex_4]; first | done | (exact hdn)
              refine lv_iconst (v := (-1)) hx hb d_Tx_layInsertEdges_76 (by decide) ?_
              refine lv_icmp_eq (tgt := 102) hx hb d_Tx_layInsertEdges_77 (by decide) (fun _ => ?_) (fun c_77 => absurd (by decide) c_77)
              have hq2 : bR reu L.length (lE L (fun l m => (iE S L i l m ∨ eA S (L.getD i 0) l m) ∨ eB S (L.getD i 0) l m)) := hq1.iff (fun a b _ _ => lE_or (eB_1 hdn) a b)
              refine lv_iinc (v := nI (i + 1)) (lv' := [(1, .int (nI (i + 1))), (2, .int (nI (L.getD i 0))), (0, .ref h)]) hx hb d_Tx_layInsertEdges_102 hl (k := 2) rfl (by exact nI_add _ _) (by decide) rfl (fun ls hl => ?_)
              refine lv_goto (tgt := 2) hx hb d_Tx_layInsertEdges_105 (by decide) ?_
              exact ih_2 (i + 1) reu _ _ _ (by omega) (by omega) (hq2.iff (fun a b _ _ => lE_iE a b)) hP hD hS (lv_sub hl [2, 0] rfl)
            · skip
              refine lv_aload_n hx hb d_Tx_layInsertEdges_67 rfl (lv_at hl 1 rfl) ?_
              refine va_get (D := (dC, dI)) (ci := 10) (v := .ref ln) (C := R_Tx) (T := F_Tx) (N := 19) hx hb hts i_Tx hown hK hP 0 rfl rfl 8 (by decide) (hts _ gw_390) (fun _ h9 => h9) rfl d_Tx_layInsertEdges_68 ?_
              refine va_get (D := (dC, dI)) (ci := 4) (v := .ref ldA) (C := R_Li) (T := F_Li) (N := 8) hx hb hts i_Li hown hK hP 1 rfl rfl 5 (by decide) (hts _ gw_158) (fun _ h9 => h9) rfl d_Tx_layInsertEdges_71 ?_
              have hd4 : d9 < 4000 := by have := (hgr _ hd1).1; omega
              refine lv_iload_n hx hb d_Tx_layInsertEdges_74 rfl (lv_at hl 0 rfl) ?_
              refine va_iald hx hb hK hP 4 0 rfl rfl (vp_in_nI (by omega) (by omega)) d_Tx_layInsertEdges_75 ?_
              rw [show (nI (L.getD i 0)).toNatClampNeg = (L.getD i 0) from nI_clamp (by omega)]
              refine lv_topi (fun x_5 ex_5 => ?_)
              obtain rfl : x_5 = nI d9 := by rw [ex_5]; first | done | (exact hdn)
              refine lv_iconst (v := (-1)) hx hb d_Tx_layInsertEdges_76 (by decide) ?_
              refine lv_icmp_eq (tgt := 102) hx hb d_Tx_layInsertEdges_77 (by decide) (fun c_77 => absurd c_77 (fun z => nI_nm1 (by omega) z.symm)) (fun _ => ?_)
              refine lv_aload_n hx hb d_Tx_layInsertEdges_80 rfl (lv_at hl 1 rfl) ?_
              refine lv_iload_n hx hb d_Tx_layInsertEdges_81 rfl (lv_at hl 0 rfl) ?_
              have hPc := hP.sub (ws' := [(h, .inr (10, [tx_order, tx_length, tx_size, tx_unsure, tx_stranded, tx_dead, tx_stock, tx_changes, .ref ln, tx_loaded, tx_version, tx_loadedFile, .ref trA, .ref tsA, .int (nI L.length), .ref reA, tx_deleters, tx_gone, tx_waits])), (ln, .inr (4, [ln_at, ln_length, ln_change, .ref lpA, .ref luA, .ref ldA, ln_ofFile, .int (nI (S.NLp S.P))])), (lpA, .inl (cI, 4000, .inl S.lp))]) [0, 1, 2] rfl
              have hDc := hD.sub (ws' := [(h, .inr (10, [tx_order, tx_length, tx_size, tx_unsure, tx_stranded, tx_dead, tx_stock, tx_changes, .ref ln, tx_loaded, tx_version, tx_loadedFile, .ref trA, .ref tsA, .int (nI L.length), .ref reA, tx_deleters, tx_gone, tx_waits])), (ln, .inr (4, [ln_at, ln_length, ln_change, .ref lpA, .ref luA, .ref ldA, ln_ofFile, .int (nI (S.NLp S.P))])), (lpA, .inl (cI, 4000, .inl S.lp))]) [0, 1, 2] (by decide) rfl
              have hFc := va_free (wc := [(h, .inr (10, [tx_order, tx_length, tx_size, tx_unsure, tx_stranded, tx_dead, tx_stock, tx_changes, .ref ln, tx_loaded, tx_version, tx_loadedFile, .ref trA, .ref tsA, .int (nI L.length), .ref reA, tx_deleters, tx_gone, tx_waits])), (ln, .inr (4, [ln_at, ln_length, ln_change, .ref lpA, .ref luA, .ref ldA, ln_ofFile, .int (nI (S.NLp S.P))])), (lpA, .inl (cI, 4000, .inl S.lp))]) hD hS hA [0, 1, 2] rfl
              refine va_calli (va_runV (As := [.int (nI (L.getD i 0))]) (rest := []) ⟨hx, hb, hml, hown, hts⟩ (m_Tx_isLast l dC dI cI cB cL cZ cR h ln lpA (tx_order) (tx_length) (tx_size) (tx_unsure) (tx_stranded) (tx_dead) (tx_stock) (tx_changes) (tx_loaded) (tx_version) (tx_loadedFile) (.ref trA) (.ref tsA) (.int (nI L.length)) (.ref reA) (tx_deleters) (tx_gone) (tx_waits) (ln_at) (ln_length) (ln_change) (.ref luA) (.ref ldA) (ln_ofFile) S (L.getD i 0) H.size hgx.1 hnl4) (cwV 1 hts (xg_V gw_1072 gw_1074 (xg_p 44 (q := (⟨"PatchStore$Text", "isLastOfInsert", "(I)Z"⟩, 19)) (by decide +kernel)) gw_9 gw_1075) rfl rfl rfl (by decide +kernel) ⟨Nat.le_of_ble_eq_true rfl, Nat.le_of_ble_eq_true rfl⟩) ⟨xw_blind, va_recv hK hPc (ci := 10) (q0 := 0) rfl rfl, fun U hU hW => ⟨rfl, by rw [hU], by rw [hU]; exact hPc, va_K.moved hW.alike hK, hDc.weaken (fun _ _ _ _ => trivial)⟩⟩ rfl rfl hl.1 rfl (lv_room (Nat.le_of_ble_eq_true rfl)) d_Tx_layInsertEdges_82 ⟨Nat.le_of_ble_eq_true rfl, Nat.le_of_ble_eq_true rfl⟩) hS (fun q _ h => hFc q h) hFc (fun r9 u t H1 locs ht hvm hw hB hz1 hk1 hS => ?_)
              obtain ⟨hP1, hK1, hD1⟩ := hB
              rw [ht] at hP1
              obtain ⟨hP, hD⟩ := va_join (wr := [(luA, .inl (cI, 4000, .inl S.lu)), (ldA, .inl (cI, 4000, .inl S.ld)), (trA, .inl (cI, 400, .inl rw9)), (tsA, .inl (cI, 4000, .inl sl)), (reA, .inl (cL, 2800, .inr (.inl reu)))]) (w1 := [(h, .inr (10, [tx_order, tx_length, tx_size, tx_unsure, tx_stranded, tx_dead, tx_stock, tx_changes, .ref ln, tx_loaded, tx_version, tx_loadedFile, .ref trA, .ref tsA, .int (nI L.length), .ref reA, tx_deleters, tx_gone, tx_waits])), (ln, .inr (4, [ln_at, ln_length, ln_change, .ref lpA, .ref luA, .ref ldA, ln_ofFile, .int (nI (S.NLp S.P))])), (lpA, .inl (cI, 4000, .inl S.lp))]) hP hD [0, 1, 2] [3, 4, 5, 6, 7] rfl rfl (by decide) (by decide) hk1 hFc hP1 hD1
              generalize H1 = H at hP hS ⊢
              have hP : va_P (dC, dI) classes [(luA, .inl (cI, 4000, .inl S.lu)), (ldA, .inl (cI, 4000, .inl S.ld)), (trA, .inl (cI, 400, .inl rw9)), (tsA, .inl (cI, 4000, .inl sl)), (reA, .inl (cL, 2800, .inr (.inl reu))), (h, .inr (10, [tx_order, tx_length, tx_size, tx_unsure, tx_stranded, tx_dead, tx_stock, tx_changes, .ref ln, tx_loaded, tx_version, tx_loadedFile, .ref trA, .ref tsA, .int (nI L.length), .ref reA, tx_deleters, tx_gone, tx_waits])), (ln, .inr (4, [ln_at, ln_length, ln_change, .ref lpA, .ref luA, .ref ldA, ln_ofFile, .int (nI (S.NLp S.P))])), (lpA, .inl (cI, 4000, .inl S.lp))] H := hP
              have hD : va_D A [(luA, .inl (cI, 4000, .inl S.lu)), (ldA, .inl (cI, 4000, .inl S.ld)), (trA, .inl (cI, 400, .inl rw9)), (tsA, .inl (cI, 4000, .inl sl)), (reA, .inl (cL, 2800, .inr (.inl reu))), (h, .inr (10, [tx_order, tx_length, tx_size, tx_unsure, tx_stranded, tx_dead, tx_stock, tx_changes, .ref ln, tx_loaded, tx_version, tx_loadedFile, .ref trA, .ref tsA, .int (nI L.length), .ref reA, tx_deleters, tx_gone, tx_waits])), (ln, .inr (4, [ln_at, ln_length, ln_change, .ref lpA, .ref luA, .ref ldA, ln_ofFile, .int (nI (S.NLp S.P))])), (lpA, .inl (cI, 4000, .inl S.lp))] := hD
              rcases hw with ⟨rfl, hla⟩ | ⟨rfl, hnl⟩
              · have hP : va_P (dC, dI) classes [(luA, .inl (cI, 4000, .inl S.lu)), (ldA, .inl (cI, 4000, .inl S.ld)), (trA, .inl (cI, 400, .inl rw9)), (tsA, .inl (cI, 4000, .inl sl)), (reA, .inl (cL, 2800, .inr (.inl reu))), (h, .inr (10, [tx_order, tx_length, tx_size, tx_unsure, tx_stranded, tx_dead, tx_stock, tx_changes, .ref ln, tx_loaded, tx_version, tx_loadedFile, .ref trA, .ref tsA, .int (nI L.length), .ref reA, tx_deleters, tx_gone, tx_waits])), (ln, .inr (4, [ln_at, ln_length, ln_change, .ref lpA, .ref luA, .ref ldA, ln_ofFile, .int (nI (S.NLp S.P))])), (lpA, .inl (cI, 4000, .inl S.lp))] H := hP
                have hD : va_D A [(luA, .inl (cI, 4000, .inl S.lu)), (ldA, .inl (cI, 4000, .inl S.ld)), (trA, .inl (cI, 400, .inl rw9)), (tsA, .inl (cI, 4000, .inl sl)), (reA, .inl (cL, 2800, .inr (.inl reu))), (h, .inr (10, [tx_order, tx_length, tx_size, tx_unsure, tx_stranded, tx_dead, tx_stock, tx_changes, .ref ln, tx_loaded, tx_version, tx_loadedFile, .ref trA, .ref tsA, .int (nI L.length), .ref reA, tx_deleters, tx_gone, tx_waits])), (ln, .inr (4, [ln_at, ln_length, ln_change, .ref lpA, .ref luA, .ref ldA, ln_ofFile, .int (nI (S.NLp S.P))])), (lpA, .inl (cI, 4000, .inl S.lp))] := hD
                refine lv_if_eq (tgt := 102) hx hb d_Tx_layInsertEdges_85 (by decide) (fun c_85 => absurd c_85 (by decide)) (fun _ => ?_)
                refine lv_aload_n hx hb d_Tx_layInsertEdges_88 rfl (lv_at hl 1 rfl) ?_
                refine lv_iload_n hx hb d_Tx_layInsertEdges_89 rfl (lv_at hl 0 rfl) ?_
                refine lv_aload_n hx hb d_Tx_layInsertEdges_90 rfl (lv_at hl 1 rfl) ?_
                refine va_get (D := (dC, dI)) (ci := 10) (v := .ref ln) (C := R_Tx) (T := F_Tx) (N := 19) hx hb hts i_Tx hown hK hP 5 rfl rfl 8 (by decide) (hts _ gw_390) (fun _ h9 => h9) rfl d_Tx_layInsertEdges_91 ?_
                refine va_get (D := (dC, dI)) (ci := 4) (v := .ref ldA) (C := R_Li) (T := F_Li) (N := 8) hx hb hts i_Li hown hK hP 6 rfl rfl 5 (by decide) (hts _ gw_158) (fun _ h9 => h9) rfl d_Tx_layInsertEdges_94 ?_
                refine lv_iload_n hx hb d_Tx_layInsertEdges_97 rfl (lv_at hl 0 rfl) ?_
                refine va_iald hx hb hK hP 1 0 rfl rfl (vp_in_nI (by omega) (by omega)) d_Tx_layInsertEdges_98 ?_
                rw [show (nI (L.getD i 0)).toNatClampNeg = (L.getD i 0) from nI_clamp (by omega)]
                refine lv_topi (fun x_6 ex_6 => ?_)
                obtain rfl : x_6 = nI d9 := by rw [ex_6]; first | done | (exact hdn)
                obtain ⟨kb, hkb1, hkb2⟩ := mem_getD hd1
                have hsb : sl d9 = nI kb := by rw [← hkb2]; exact hsl kb hkb1
                have hsa : sl (L.getD i 0) = nI i := hsl i n_7
                have hPc := hP.sub (ws' := [(h, .inr (10, [tx_order, tx_length, tx_size, tx_unsure, tx_stranded, tx_dead, tx_stock, tx_changes, .ref ln, tx_loaded, tx_version, tx_loadedFile, .ref trA, .ref tsA, .int (nI L.length), .ref reA, tx_deleters, tx_gone, tx_waits])), (tsA, .inl (cI, 4000, .inl sl)), (reA, .inl (cL, 2800, .inr (.inl reu)))]) [5, 3, 4] rfl
                have hDc := hD.sub (ws' := [(h, .inr (10, [tx_order, tx_length, tx_size, tx_unsure, tx_stranded, tx_dead, tx_stock, tx_changes, .ref ln, tx_loaded, tx_version, tx_loadedFile, .ref trA, .ref tsA, .int (nI L.length), .ref reA, tx_deleters, tx_gone, tx_waits])), (tsA, .inl (cI, 4000, .inl sl)), (reA, .inl (cL, 2800, .inr (.inl reu)))]) [5, 3, 4] (by decide) rfl
                have hFc := va_free (wc := [(h, .inr (10, [tx_order, tx_length, tx_size, tx_unsure, tx_stranded, tx_dead, tx_stock, tx_changes, .ref ln, tx_loaded, tx_version, tx_loadedFile, .ref trA, .ref tsA, .int (nI L.length), .ref reA, tx_deleters, tx_gone, tx_waits])), (tsA, .inl (cI, 4000, .inl sl)), (reA, .inl (cL, 2800, .inr (.inl reu)))]) hD hS hA [5, 3, 4] rfl
                refine va_callv (va_runV (As := [.int (nI (L.getD i 0)), .int (nI d9)]) (rest := []) ⟨hx, hb, hml, hown, hts⟩ (m_Tx_layEdge l dC dI cI cB cL cZ cR h tsA reA (tx_order) (tx_length) (tx_size) (tx_unsure) (tx_stranded) (tx_dead) (tx_stock) (tx_changes) (.ref ln) (tx_loaded) (tx_version) (tx_loadedFile) (.ref trA) (.int (nI L.length)) (tx_deleters) (tx_gone) (tx_waits) sl reu (L.getD i 0) d9 i kb H.size (by omega) (by omega) hsa hsb (by omega) (by omega)) (cwV 2 hts (xg_V gw_1068 gw_1070 (xg_p 43 (q := (⟨"PatchStore$Text", "layEdge", "(II)V"⟩, 19)) (by decide +kernel)) gw_9 gw_1071) rfl rfl rfl (by decide +kernel) ⟨Nat.le_of_ble_eq_true rfl, Nat.le_of_ble_eq_true rfl⟩) ⟨xw_blind, va_recv hK hPc (ci := 10) (q0 := 0) rfl rfl, fun U hU hW => ⟨rfl, by rw [hU], by rw [hU]; exact hPc, va_K.moved hW.alike hK, hDc.weaken (fun _ _ _ _ => trivial)⟩⟩ rfl rfl hl.1 rfl (lv_room (Nat.le_of_ble_eq_true rfl)) d_Tx_layInsertEdges_99 ⟨Nat.le_of_ble_eq_true rfl, Nat.le_of_ble_eq_true rfl⟩) hS (fun q _ h => hFc q h) hFc (fun u9 t H1 locs ht hvm hw hB hz1 hk1 hS => ?_)
                obtain ⟨hP1, hK1, hD1⟩ := hB
                rw [ht] at hP1
                obtain ⟨hP, hD⟩ := va_join (wr := [(luA, .inl (cI, 4000, .inl S.lu)), (ldA, .inl (cI, 4000, .inl S.ld)), (trA, .inl (cI, 400, .inl rw9)), (ln, .inr (4, [ln_at, ln_length, ln_change, .ref lpA, .ref luA, .ref ldA, ln_ofFile, .int (nI (S.NLp S.P))])), (lpA, .inl (cI, 4000, .inl S.lp))]) (w1 := [(h, .inr (10, [tx_order, tx_length, tx_size, tx_unsure, tx_stranded, tx_dead, tx_stock, tx_changes, .ref ln, tx_loaded, tx_version, tx_loadedFile, .ref trA, .ref tsA, .int (nI L.length), .ref reA, tx_deleters, tx_gone, tx_waits])), (tsA, .inl (cI, 4000, .inl sl)), (reA, .inl (cL, 2800, .inr (.inl (btr_in reu (i * 7) kb))))]) hP hD [5, 3, 4] [0, 1, 2, 6, 7] rfl rfl (by decide) (by decide) hk1 hFc hP1 hD1
                generalize H1 = H at hP hS ⊢
                have hP : va_P (dC, dI) classes [(luA, .inl (cI, 4000, .inl S.lu)), (ldA, .inl (cI, 4000, .inl S.ld)), (trA, .inl (cI, 400, .inl rw9)), (ln, .inr (4, [ln_at, ln_length, ln_change, .ref lpA, .ref luA, .ref ldA, ln_ofFile, .int (nI (S.NLp S.P))])), (lpA, .inl (cI, 4000, .inl S.lp)), (h, .inr (10, [tx_order, tx_length, tx_size, tx_unsure, tx_stranded, tx_dead, tx_stock, tx_changes, .ref ln, tx_loaded, tx_version, tx_loadedFile, .ref trA, .ref tsA, .int (nI L.length), .ref reA, tx_deleters, tx_gone, tx_waits])), (tsA, .inl (cI, 4000, .inl sl)), (reA, .inl (cL, 2800, .inr (.inl (btr_in reu (i * 7) kb))))] H := hP
                have hD : va_D A [(luA, .inl (cI, 4000, .inl S.lu)), (ldA, .inl (cI, 4000, .inl S.ld)), (trA, .inl (cI, 400, .inl rw9)), (ln, .inr (4, [ln_at, ln_length, ln_change, .ref lpA, .ref luA, .ref ldA, ln_ofFile, .int (nI (S.NLp S.P))])), (lpA, .inl (cI, 4000, .inl S.lp)), (h, .inr (10, [tx_order, tx_length, tx_size, tx_unsure, tx_stranded, tx_dead, tx_stock, tx_changes, .ref ln, tx_loaded, tx_version, tx_loadedFile, .ref trA, .ref tsA, .int (nI L.length), .ref reA, tx_deleters, tx_gone, tx_waits])), (tsA, .inl (cI, 4000, .inl sl)), (reA, .inl (cL, 2800, .inr (.inl (btr_in reu (i * 7) kb))))] := hD
                have hq2 : bR (btr_in reu (i * 7) kb) L.length (lE L (fun l m => (iE S L i l m ∨ eA S (L.getD i 0) l m) ∨ eB S (L.getD i 0) l m)) := hq1.add (by omega) (lE_add hsl hL4 n_7 hkb1 (fun l m => or_congr_right (by rw [hkb2]; exact eB_3 hla hdn hd4 l m)))
                refine lv_iinc (v := nI (i + 1)) (lv' := [(1, .int (nI (i + 1))), (2, .int (nI (L.getD i 0))), (0, .ref h)]) hx hb d_Tx_layInsertEdges_102 hl (k := 2) rfl (by exact nI_add _ _) (by decide) rfl (fun ls hl => ?_)
                refine lv_goto (tgt := 2) hx hb d_Tx_layInsertEdges_105 (by decide) ?_
                exact ih_2 (i + 1) (btr_in reu (i * 7) kb) _ _ _ (by omega) (by omega) (hq2.iff (fun a b _ _ => lE_iE a b)) (hP.sub [5, 3, 4, 0, 1, 2, 6, 7] rfl) (hD.sub [5, 3, 4, 0, 1, 2, 6, 7] (by decide) rfl) hS (lv_sub hl [2, 0] rfl)
              · have hP : va_P (dC, dI) classes [(luA, .inl (cI, 4000, .inl S.lu)), (ldA, .inl (cI, 4000, .inl S.ld)), (trA, .inl (cI, 400, .inl rw9)), (tsA, .inl (cI, 4000, .inl sl)), (reA, .inl (cL, 2800, .inr (.inl reu))), (h, .inr (10, [tx_order, tx_length, tx_size, tx_unsure, tx_stranded, tx_dead, tx_stock, tx_changes, .ref ln, tx_loaded, tx_version, tx_loadedFile, .ref trA, .ref tsA, .int (nI L.length), .ref reA, tx_deleters, tx_gone, tx_waits])), (ln, .inr (4, [ln_at, ln_length, ln_change, .ref lpA, .ref luA, .ref ldA, ln_ofFile, .int (nI (S.NLp S.P))])), (lpA, .inl (cI, 4000, .inl S.lp))] H := hP
                have hD : va_D A [(luA, .inl (cI, 4000, .inl S.lu)), (ldA, .inl (cI, 4000, .inl S.ld)), (trA, .inl (cI, 400, .inl rw9)), (tsA, .inl (cI, 4000, .inl sl)), (reA, .inl (cL, 2800, .inr (.inl reu))), (h, .inr (10, [tx_order, tx_length, tx_size, tx_unsure, tx_stranded, tx_dead, tx_stock, tx_changes, .ref ln, tx_loaded, tx_version, tx_loadedFile, .ref trA, .ref tsA, .int (nI L.length), .ref reA, tx_deleters, tx_gone, tx_waits])), (ln, .inr (4, [ln_at, ln_length, ln_change, .ref lpA, .ref luA, .ref ldA, ln_ofFile, .int (nI (S.NLp S.P))])), (lpA, .inl (cI, 4000, .inl S.lp))] := hD
                refine lv_if_eq (tgt := 102) hx hb d_Tx_layInsertEdges_85 (by decide) (fun _ => ?_) (fun c_85 => absurd (by decide) c_85)
                have hq2 : bR reu L.length (lE L (fun l m => (iE S L i l m ∨ eA S (L.getD i 0) l m) ∨ eB S (L.getD i 0) l m)) := hq1.iff (fun a b _ _ => lE_or (eB_2 hnl) a b)
                refine lv_iinc (v := nI (i + 1)) (lv' := [(1, .int (nI (i + 1))), (2, .int (nI (L.getD i 0))), (0, .ref h)]) hx hb d_Tx_layInsertEdges_102 hl (k := 2) rfl (by exact nI_add _ _) (by decide) rfl (fun ls hl => ?_)
                refine lv_goto (tgt := 2) hx hb d_Tx_layInsertEdges_105 (by decide) ?_
                exact ih_2 (i + 1) reu _ _ _ (by omega) (by omega) (hq2.iff (fun a b _ _ => lE_iE a b)) (hP.sub [5, 6, 7, 0, 1, 2, 3, 4] rfl) (hD.sub [5, 6, 7, 0, 1, 2, 3, 4] (by decide) rfl) hS (lv_sub hl [2, 0] rfl)
          · skip
            refine lv_aload_n hx hb d_Tx_layInsertEdges_40 rfl (lv_at hl 1 rfl) ?_
            refine va_get (D := (dC, dI)) (ci := 10) (v := .ref ln) (C := R_Tx) (T := F_Tx) (N := 19) hx hb hts i_Tx hown hK hP 0 rfl rfl 8 (by decide) (hts _ gw_390) (fun _ h9 => h9) rfl d_Tx_layInsertEdges_41 ?_
            refine va_get (D := (dC, dI)) (ci := 4) (v := .ref luA) (C := R_Li) (T := F_Li) (N := 8) hx hb hts i_Li hown hK hP 1 rfl rfl 4 (by decide) (hts _ gw_155) (fun _ h9 => h9) rfl d_Tx_layInsertEdges_44 ?_
            have hu4 : u9 < 4000 := by have := (hgr _ hu1).1; omega
            refine lv_iload_n hx hb d_Tx_layInsertEdges_47 rfl (lv_at hl 0 rfl) ?_
            refine va_iald hx hb hK hP 3 0 rfl rfl (vp_in_nI (by omega) (by omega)) d_Tx_layInsertEdges_48 ?_
            rw [show (nI (L.getD i 0)).toNatClampNeg = (L.getD i 0) from nI_clamp (by omega)]
            refine lv_topi (fun x_7 ex_7 => ?_)
            obtain rfl : x_7 = nI u9 := by rw [ex_7]; first | done | (exact hup)
            refine lv_iconst (v := (-1)) hx hb d_Tx_layInsertEdges_49 (by decide) ?_
            refine lv_icmp_eq (tgt := 67) hx hb d_Tx_layInsertEdges_50 (by decide) (fun c_50 => absurd c_50 (fun z => nI_nm1 (by omega) z.symm)) (fun _ => ?_)
            refine lv_aload_n hx hb d_Tx_layInsertEdges_53 rfl (lv_at hl 1 rfl) ?_
            refine lv_aload_n hx hb d_Tx_layInsertEdges_54 rfl (lv_at hl 1 rfl) ?_
            refine va_get (D := (dC, dI)) (ci := 10) (v := .ref ln) (C := R_Tx) (T := F_Tx) (N := 19) hx hb hts i_Tx hown hK hP 0 rfl rfl 8 (by decide) (hts _ gw_390) (fun _ h9 => h9) rfl d_Tx_layInsertEdges_55 ?_
            refine va_get (D := (dC, dI)) (ci := 4) (v := .ref luA) (C := R_Li) (T := F_Li) (N := 8) hx hb hts i_Li hown hK hP 1 rfl rfl 4 (by decide) (hts _ gw_155) (fun _ h9 => h9) rfl d_Tx_layInsertEdges_58 ?_
            refine lv_iload_n hx hb d_Tx_layInsertEdges_61 rfl (lv_at hl 0 rfl) ?_
            refine va_iald hx hb hK hP 3 0 rfl rfl (vp_in_nI (by omega) (by omega)) d_Tx_layInsertEdges_62 ?_
            rw [show (nI (L.getD i 0)).toNatClampNeg = (L.getD i 0) from nI_clamp (by omega)]
            refine lv_topi (fun x_8 ex_8 => ?_)
            obtain rfl : x_8 = nI u9 := by rw [ex_8]; first | done | (exact hup)
            refine lv_iload_n hx hb d_Tx_layInsertEdges_63 rfl (lv_at hl 0 rfl) ?_
            obtain ⟨ka, hka1, hka2⟩ := mem_getD hu1
            have hsa : sl u9 = nI ka := by rw [← hka2]; exact hsl ka hka1
            have hsb : sl (L.getD i 0) = nI i := hsl i n_7
            have hPc := hP.sub (ws' := [(h, .inr (10, [tx_order, tx_length, tx_size, tx_unsure, tx_stranded, tx_dead, tx_stock, tx_changes, .ref ln, tx_loaded, tx_version, tx_loadedFile, .ref trA, .ref tsA, .int (nI L.length), .ref reA, tx_deleters, tx_gone, tx_waits])), (tsA, .inl (cI, 4000, .inl sl)), (reA, .inl (cL, 2800, .inr (.inl reu)))]) [0, 6, 7] rfl
            have hDc := hD.sub (ws' := [(h, .inr (10, [tx_order, tx_length, tx_size, tx_unsure, tx_stranded, tx_dead, tx_stock, tx_changes, .ref ln, tx_loaded, tx_version, tx_loadedFile, .ref trA, .ref tsA, .int (nI L.length), .ref reA, tx_deleters, tx_gone, tx_waits])), (tsA, .inl (cI, 4000, .inl sl)), (reA, .inl (cL, 2800, .inr (.inl reu)))]) [0, 6, 7] (by decide) rfl
            have hFc := va_free (wc := [(h, .inr (10, [tx_order, tx_length, tx_size, tx_unsure, tx_stranded, tx_dead, tx_stock, tx_changes, .ref ln, tx_loaded, tx_version, tx_loadedFile, .ref trA, .ref tsA, .int (nI L.length), .ref reA, tx_deleters, tx_gone, tx_waits])), (tsA, .inl (cI, 4000, .inl sl)), (reA, .inl (cL, 2800, .inr (.inl reu)))]) hD hS hA [0, 6, 7] rfl
            refine va_callv (va_runV (As := [.int (nI u9), .int (nI (L.getD i 0))]) (rest := []) ⟨hx, hb, hml, hown, hts⟩ (m_Tx_layEdge l dC dI cI cB cL cZ cR h tsA reA (tx_order) (tx_length) (tx_size) (tx_unsure) (tx_stranded) (tx_dead) (tx_stock) (tx_changes) (.ref ln) (tx_loaded) (tx_version) (tx_loadedFile) (.ref trA) (.int (nI L.length)) (tx_deleters) (tx_gone) (tx_waits) sl reu u9 (L.getD i 0) ka i H.size (by omega) (by omega) hsa hsb (by omega) (by omega)) (cwV 2 hts (xg_V gw_1068 gw_1070 (xg_p 43 (q := (⟨"PatchStore$Text", "layEdge", "(II)V"⟩, 19)) (by decide +kernel)) gw_9 gw_1071) rfl rfl rfl (by decide +kernel) ⟨Nat.le_of_ble_eq_true rfl, Nat.le_of_ble_eq_true rfl⟩) ⟨xw_blind, va_recv hK hPc (ci := 10) (q0 := 0) rfl rfl, fun U hU hW => ⟨rfl, by rw [hU], by rw [hU]; exact hPc, va_K.moved hW.alike hK, hDc.weaken (fun _ _ _ _ => trivial)⟩⟩ rfl rfl hl.1 rfl (lv_room (Nat.le_of_ble_eq_true rfl)) d_Tx_layInsertEdges_64 ⟨Nat.le_of_ble_eq_true rfl, Nat.le_of_ble_eq_true rfl⟩) hS (fun q _ h => hFc q h) hFc (fun u9 t H1 locs ht hvm hw hB hz1 hk1 hS => ?_)
            obtain ⟨hP1, hK1, hD1⟩ := hB
            rw [ht] at hP1
            obtain ⟨hP, hD⟩ := va_join (wr := [(ln, .inr (4, [ln_at, ln_length, ln_change, .ref lpA, .ref luA, .ref ldA, ln_ofFile, .int (nI (S.NLp S.P))])), (lpA, .inl (cI, 4000, .inl S.lp)), (luA, .inl (cI, 4000, .inl S.lu)), (ldA, .inl (cI, 4000, .inl S.ld)), (trA, .inl (cI, 400, .inl rw9))]) (w1 := [(h, .inr (10, [tx_order, tx_length, tx_size, tx_unsure, tx_stranded, tx_dead, tx_stock, tx_changes, .ref ln, tx_loaded, tx_version, tx_loadedFile, .ref trA, .ref tsA, .int (nI L.length), .ref reA, tx_deleters, tx_gone, tx_waits])), (tsA, .inl (cI, 4000, .inl sl)), (reA, .inl (cL, 2800, .inr (.inl (btr_in reu (ka * 7) i))))]) hP hD [0, 6, 7] [1, 2, 3, 4, 5] rfl rfl (by decide) (by decide) hk1 hFc hP1 hD1
            generalize H1 = H at hP hS ⊢
            have hP : va_P (dC, dI) classes [(ln, .inr (4, [ln_at, ln_length, ln_change, .ref lpA, .ref luA, .ref ldA, ln_ofFile, .int (nI (S.NLp S.P))])), (lpA, .inl (cI, 4000, .inl S.lp)), (luA, .inl (cI, 4000, .inl S.lu)), (ldA, .inl (cI, 4000, .inl S.ld)), (trA, .inl (cI, 400, .inl rw9)), (h, .inr (10, [tx_order, tx_length, tx_size, tx_unsure, tx_stranded, tx_dead, tx_stock, tx_changes, .ref ln, tx_loaded, tx_version, tx_loadedFile, .ref trA, .ref tsA, .int (nI L.length), .ref reA, tx_deleters, tx_gone, tx_waits])), (tsA, .inl (cI, 4000, .inl sl)), (reA, .inl (cL, 2800, .inr (.inl (btr_in reu (ka * 7) i))))] H := hP
            have hD : va_D A [(ln, .inr (4, [ln_at, ln_length, ln_change, .ref lpA, .ref luA, .ref ldA, ln_ofFile, .int (nI (S.NLp S.P))])), (lpA, .inl (cI, 4000, .inl S.lp)), (luA, .inl (cI, 4000, .inl S.lu)), (ldA, .inl (cI, 4000, .inl S.ld)), (trA, .inl (cI, 400, .inl rw9)), (h, .inr (10, [tx_order, tx_length, tx_size, tx_unsure, tx_stranded, tx_dead, tx_stock, tx_changes, .ref ln, tx_loaded, tx_version, tx_loadedFile, .ref trA, .ref tsA, .int (nI L.length), .ref reA, tx_deleters, tx_gone, tx_waits])), (tsA, .inl (cI, 4000, .inl sl)), (reA, .inl (cL, 2800, .inr (.inl (btr_in reu (ka * 7) i))))] := hD
            have hq1 : bR (btr_in reu (ka * 7) i) L.length (lE L (fun l m => iE S L i l m ∨ eA S (L.getD i 0) l m)) := hq.add (by omega) (lE_add hsl hL4 hka1 n_7 (fun l m => or_congr_right (by rw [hka2]; exact eA_3 hp0 hup hu4 l m)))
            rcases hdn with hdn | ⟨d9, hd1, hdn⟩
            · skip
              refine lv_aload_n hx hb d_Tx_layInsertEdges_67 rfl (lv_at hl 1 rfl) ?_
              refine va_get (D := (dC, dI)) (ci := 10) (v := .ref ln) (C := R_Tx) (T := F_Tx) (N := 19) hx hb hts i_Tx hown hK hP 5 rfl rfl 8 (by decide) (hts _ gw_390) (fun _ h9 => h9) rfl d_Tx_layInsertEdges_68 ?_
              refine va_get (D := (dC, dI)) (ci := 4) (v := .ref ldA) (C := R_Li) (T := F_Li) (N := 8) hx hb hts i_Li hown hK hP 0 rfl rfl 5 (by decide) (hts _ gw_158) (fun _ h9 => h9) rfl d_Tx_layInsertEdges_71 ?_
              refine lv_iload_n hx hb d_Tx_layInsertEdges_74 rfl (lv_at hl 0 rfl) ?_
              refine va_iald hx hb hK hP 3 0 rfl rfl (vp_in_nI (by omega) (by omega)) d_Tx_layInsertEdges_75 ?_
              rw [show (nI (L.getD i 0)).toNatClampNeg = (L.getD i 0) from nI_clamp (by omega)]
              refine lv_topi (fun x_9 ex_9 => ?_)
              obtain rfl : x_9 = (-1) := by rw [ex_9]; first | done | (exact hdn)
              refine lv_iconst (v := (-1)) hx hb d_Tx_layInsertEdges_76 (by decide) ?_
              refine lv_icmp_eq (tgt := 102) hx hb d_Tx_layInsertEdges_77 (by decide) (fun _ => ?_) (fun c_77 => absurd (by decide) c_77)
              have hq2 : bR (btr_in reu (ka * 7) i) L.length (lE L (fun l m => (iE S L i l m ∨ eA S (L.getD i 0) l m) ∨ eB S (L.getD i 0) l m)) := hq1.iff (fun a b _ _ => lE_or (eB_1 hdn) a b)
              refine lv_iinc (v := nI (i + 1)) (lv' := [(1, .int (nI (i + 1))), (2, .int (nI (L.getD i 0))), (0, .ref h)]) hx hb d_Tx_layInsertEdges_102 hl (k := 2) rfl (by exact nI_add _ _) (by decide) rfl (fun ls hl => ?_)
              refine lv_goto (tgt := 2) hx hb d_Tx_layInsertEdges_105 (by decide) ?_
              exact ih_2 (i + 1) (btr_in reu (ka * 7) i) _ _ _ (by omega) (by omega) (hq2.iff (fun a b _ _ => lE_iE a b)) (hP.sub [5, 0, 1, 2, 3, 4, 6, 7] rfl) (hD.sub [5, 0, 1, 2, 3, 4, 6, 7] (by decide) rfl) hS (lv_sub hl [2, 0] rfl)
            · skip
              refine lv_aload_n hx hb d_Tx_layInsertEdges_67 rfl (lv_at hl 1 rfl) ?_
              refine va_get (D := (dC, dI)) (ci := 10) (v := .ref ln) (C := R_Tx) (T := F_Tx) (N := 19) hx hb hts i_Tx hown hK hP 5 rfl rfl 8 (by decide) (hts _ gw_390) (fun _ h9 => h9) rfl d_Tx_layInsertEdges_68 ?_
              refine va_get (D := (dC, dI)) (ci := 4) (v := .ref ldA) (C := R_Li) (T := F_Li) (N := 8) hx hb hts i_Li hown hK hP 0 rfl rfl 5 (by decide) (hts _ gw_158) (fun _ h9 => h9) rfl d_Tx_layInsertEdges_71 ?_
              have hd4 : d9 < 4000 := by have := (hgr _ hd1).1; omega
              refine lv_iload_n hx hb d_Tx_layInsertEdges_74 rfl (lv_at hl 0 rfl) ?_
              refine va_iald hx hb hK hP 3 0 rfl rfl (vp_in_nI (by omega) (by omega)) d_Tx_layInsertEdges_75 ?_
              rw [show (nI (L.getD i 0)).toNatClampNeg = (L.getD i 0) from nI_clamp (by omega)]
              refine lv_topi (fun x_10 ex_10 => ?_)
              obtain rfl : x_10 = nI d9 := by rw [ex_10]; first | done | (exact hdn)
              refine lv_iconst (v := (-1)) hx hb d_Tx_layInsertEdges_76 (by decide) ?_
              refine lv_icmp_eq (tgt := 102) hx hb d_Tx_layInsertEdges_77 (by decide) (fun c_77 => absurd c_77 (fun z => nI_nm1 (by omega) z.symm)) (fun _ => ?_)
              refine lv_aload_n hx hb d_Tx_layInsertEdges_80 rfl (lv_at hl 1 rfl) ?_
              refine lv_iload_n hx hb d_Tx_layInsertEdges_81 rfl (lv_at hl 0 rfl) ?_
              have hPc := hP.sub (ws' := [(h, .inr (10, [tx_order, tx_length, tx_size, tx_unsure, tx_stranded, tx_dead, tx_stock, tx_changes, .ref ln, tx_loaded, tx_version, tx_loadedFile, .ref trA, .ref tsA, .int (nI L.length), .ref reA, tx_deleters, tx_gone, tx_waits])), (ln, .inr (4, [ln_at, ln_length, ln_change, .ref lpA, .ref luA, .ref ldA, ln_ofFile, .int (nI (S.NLp S.P))])), (lpA, .inl (cI, 4000, .inl S.lp))]) [5, 0, 1] rfl
              have hDc := hD.sub (ws' := [(h, .inr (10, [tx_order, tx_length, tx_size, tx_unsure, tx_stranded, tx_dead, tx_stock, tx_changes, .ref ln, tx_loaded, tx_version, tx_loadedFile, .ref trA, .ref tsA, .int (nI L.length), .ref reA, tx_deleters, tx_gone, tx_waits])), (ln, .inr (4, [ln_at, ln_length, ln_change, .ref lpA, .ref luA, .ref ldA, ln_ofFile, .int (nI (S.NLp S.P))])), (lpA, .inl (cI, 4000, .inl S.lp))]) [5, 0, 1] (by decide) rfl
              have hFc := va_free (wc := [(h, .inr (10, [tx_order, tx_length, tx_size, tx_unsure, tx_stranded, tx_dead, tx_stock, tx_changes, .ref ln, tx_loaded, tx_version, tx_loadedFile, .ref trA, .ref tsA, .int (nI L.length), .ref reA, tx_deleters, tx_gone, tx_waits])), (ln, .inr (4, [ln_at, ln_length, ln_change, .ref lpA, .ref luA, .ref ldA, ln_ofFile, .int (nI (S.NLp S.P))])), (lpA, .inl (cI, 4000, .inl S.lp))]) hD hS hA [5, 0, 1] rfl
              refine va_calli (va_runV (As := [.int (nI (L.getD i 0))]) (rest := []) ⟨hx, hb, hml, hown, hts⟩ (m_Tx_isLast l dC dI cI cB cL cZ cR h ln lpA (tx_order) (tx_length) (tx_size) (tx_unsure) (tx_stranded) (tx_dead) (tx_stock) (tx_changes) (tx_loaded) (tx_version) (tx_loadedFile) (.ref trA) (.ref tsA) (.int (nI L.length)) (.ref reA) (tx_deleters) (tx_gone) (tx_waits) (ln_at) (ln_length) (ln_change) (.ref luA) (.ref ldA) (ln_ofFile) S (L.getD i 0) H.size hgx.1 hnl4) (cwV 1 hts (xg_V gw_1072 gw_1074 (xg_p 44 (q := (⟨"PatchStore$Text", "isLastOfInsert", "(I)Z"⟩, 19)) (by decide +kernel)) gw_9 gw_1075) rfl rfl rfl (by decide +kernel) ⟨Nat.le_of_ble_eq_true rfl, Nat.le_of_ble_eq_true rfl⟩) ⟨xw_blind, va_recv hK hPc (ci := 10) (q0 := 0) rfl rfl, fun U hU hW => ⟨rfl, by rw [hU], by rw [hU]; exact hPc, va_K.moved hW.alike hK, hDc.weaken (fun _ _ _ _ => trivial)⟩⟩ rfl rfl hl.1 rfl (lv_room (Nat.le_of_ble_eq_true rfl)) d_Tx_layInsertEdges_82 ⟨Nat.le_of_ble_eq_true rfl, Nat.le_of_ble_eq_true rfl⟩) hS (fun q _ h => hFc q h) hFc (fun r9 u t H1 locs ht hvm hw hB hz1 hk1 hS => ?_)
              obtain ⟨hP1, hK1, hD1⟩ := hB
              rw [ht] at hP1
              obtain ⟨hP, hD⟩ := va_join (wr := [(luA, .inl (cI, 4000, .inl S.lu)), (ldA, .inl (cI, 4000, .inl S.ld)), (trA, .inl (cI, 400, .inl rw9)), (tsA, .inl (cI, 4000, .inl sl)), (reA, .inl (cL, 2800, .inr (.inl (btr_in reu (ka * 7) i))))]) (w1 := [(h, .inr (10, [tx_order, tx_length, tx_size, tx_unsure, tx_stranded, tx_dead, tx_stock, tx_changes, .ref ln, tx_loaded, tx_version, tx_loadedFile, .ref trA, .ref tsA, .int (nI L.length), .ref reA, tx_deleters, tx_gone, tx_waits])), (ln, .inr (4, [ln_at, ln_length, ln_change, .ref lpA, .ref luA, .ref ldA, ln_ofFile, .int (nI (S.NLp S.P))])), (lpA, .inl (cI, 4000, .inl S.lp))]) hP hD [5, 0, 1] [2, 3, 4, 6, 7] rfl rfl (by decide) (by decide) hk1 hFc hP1 hD1
              generalize H1 = H at hP hS ⊢
              have hP : va_P (dC, dI) classes [(luA, .inl (cI, 4000, .inl S.lu)), (ldA, .inl (cI, 4000, .inl S.ld)), (trA, .inl (cI, 400, .inl rw9)), (tsA, .inl (cI, 4000, .inl sl)), (reA, .inl (cL, 2800, .inr (.inl (btr_in reu (ka * 7) i)))), (h, .inr (10, [tx_order, tx_length, tx_size, tx_unsure, tx_stranded, tx_dead, tx_stock, tx_changes, .ref ln, tx_loaded, tx_version, tx_loadedFile, .ref trA, .ref tsA, .int (nI L.length), .ref reA, tx_deleters, tx_gone, tx_waits])), (ln, .inr (4, [ln_at, ln_length, ln_change, .ref lpA, .ref luA, .ref ldA, ln_ofFile, .int (nI (S.NLp S.P))])), (lpA, .inl (cI, 4000, .inl S.lp))] H := hP
              have hD : va_D A [(luA, .inl (cI, 4000, .inl S.lu)), (ldA, .inl (cI, 4000, .inl S.ld)), (trA, .inl (cI, 400, .inl rw9)), (tsA, .inl (cI, 4000, .inl sl)), (reA, .inl (cL, 2800, .inr (.inl (btr_in reu (ka * 7) i)))), (h, .inr (10, [tx_order, tx_length, tx_size, tx_unsure, tx_stranded, tx_dead, tx_stock, tx_changes, .ref ln, tx_loaded, tx_version, tx_loadedFile, .ref trA, .ref tsA, .int (nI L.length), .ref reA, tx_deleters, tx_gone, tx_waits])), (ln, .inr (4, [ln_at, ln_length, ln_change, .ref lpA, .ref luA, .ref ldA, ln_ofFile, .int (nI (S.NLp S.P))])), (lpA, .inl (cI, 4000, .inl S.lp))] := hD
              rcases hw with ⟨rfl, hla⟩ | ⟨rfl, hnl⟩
              · have hP : va_P (dC, dI) classes [(luA, .inl (cI, 4000, .inl S.lu)), (ldA, .inl (cI, 4000, .inl S.ld)), (trA, .inl (cI, 400, .inl rw9)), (tsA, .inl (cI, 4000, .inl sl)), (reA, .inl (cL, 2800, .inr (.inl (btr_in reu (ka * 7) i)))), (h, .inr (10, [tx_order, tx_length, tx_size, tx_unsure, tx_stranded, tx_dead, tx_stock, tx_changes, .ref ln, tx_loaded, tx_version, tx_loadedFile, .ref trA, .ref tsA, .int (nI L.length), .ref reA, tx_deleters, tx_gone, tx_waits])), (ln, .inr (4, [ln_at, ln_length, ln_change, .ref lpA, .ref luA, .ref ldA, ln_ofFile, .int (nI (S.NLp S.P))])), (lpA, .inl (cI, 4000, .inl S.lp))] H := hP
                have hD : va_D A [(luA, .inl (cI, 4000, .inl S.lu)), (ldA, .inl (cI, 4000, .inl S.ld)), (trA, .inl (cI, 400, .inl rw9)), (tsA, .inl (cI, 4000, .inl sl)), (reA, .inl (cL, 2800, .inr (.inl (btr_in reu (ka * 7) i)))), (h, .inr (10, [tx_order, tx_length, tx_size, tx_unsure, tx_stranded, tx_dead, tx_stock, tx_changes, .ref ln, tx_loaded, tx_version, tx_loadedFile, .ref trA, .ref tsA, .int (nI L.length), .ref reA, tx_deleters, tx_gone, tx_waits])), (ln, .inr (4, [ln_at, ln_length, ln_change, .ref lpA, .ref luA, .ref ldA, ln_ofFile, .int (nI (S.NLp S.P))])), (lpA, .inl (cI, 4000, .inl S.lp))] := hD
                refine lv_if_eq (tgt := 102) hx hb d_Tx_layInsertEdges_85 (by decide) (fun c_85 => absurd c_85 (by decide)) (fun _ => ?_)
                refine lv_aload_n hx hb d_Tx_layInsertEdges_88 rfl (lv_at hl 1 rfl) ?_
                refine lv_iload_n hx hb d_Tx_layInsertEdges_89 rfl (lv_at hl 0 rfl) ?_
                refine lv_aload_n hx hb d_Tx_layInsertEdges_90 rfl (lv_at hl 1 rfl) ?_
                refine va_get (D := (dC, dI)) (ci := 10) (v := .ref ln) (C := R_Tx) (T := F_Tx) (N := 19) hx hb hts i_Tx hown hK hP 5 rfl rfl 8 (by decide) (hts _ gw_390) (fun _ h9 => h9) rfl d_Tx_layInsertEdges_91 ?_
                refine va_get (D := (dC, dI)) (ci := 4) (v := .ref ldA) (C := R_Li) (T := F_Li) (N := 8) hx hb hts i_Li hown hK hP 6 rfl rfl 5 (by decide) (hts _ gw_158) (fun _ h9 => h9) rfl d_Tx_layInsertEdges_94 ?_
                refine lv_iload_n hx hb d_Tx_layInsertEdges_97 rfl (lv_at hl 0 rfl) ?_
                refine va_iald hx hb hK hP 1 0 rfl rfl (vp_in_nI (by omega) (by omega)) d_Tx_layInsertEdges_98 ?_
                rw [show (nI (L.getD i 0)).toNatClampNeg = (L.getD i 0) from nI_clamp (by omega)]
                refine lv_topi (fun x_11 ex_11 => ?_)
                obtain rfl : x_11 = nI d9 := by rw [ex_11]; first | done | (exact hdn)
                obtain ⟨kb, hkb1, hkb2⟩ := mem_getD hd1
                have hsb : sl d9 = nI kb := by rw [← hkb2]; exact hsl kb hkb1
                have hsa : sl (L.getD i 0) = nI i := hsl i n_7
                have hPc := hP.sub (ws' := [(h, .inr (10, [tx_order, tx_length, tx_size, tx_unsure, tx_stranded, tx_dead, tx_stock, tx_changes, .ref ln, tx_loaded, tx_version, tx_loadedFile, .ref trA, .ref tsA, .int (nI L.length), .ref reA, tx_deleters, tx_gone, tx_waits])), (tsA, .inl (cI, 4000, .inl sl)), (reA, .inl (cL, 2800, .inr (.inl (btr_in reu (ka * 7) i))))]) [5, 3, 4] rfl
                have hDc := hD.sub (ws' := [(h, .inr (10, [tx_order, tx_length, tx_size, tx_unsure, tx_stranded, tx_dead, tx_stock, tx_changes, .ref ln, tx_loaded, tx_version, tx_loadedFile, .ref trA, .ref tsA, .int (nI L.length), .ref reA, tx_deleters, tx_gone, tx_waits])), (tsA, .inl (cI, 4000, .inl sl)), (reA, .inl (cL, 2800, .inr (.inl (btr_in reu (ka * 7) i))))]) [5, 3, 4] (by decide) rfl
                have hFc := va_free (wc := [(h, .inr (10, [tx_order, tx_length, tx_size, tx_unsure, tx_stranded, tx_dead, tx_stock, tx_changes, .ref ln, tx_loaded, tx_version, tx_loadedFile, .ref trA, .ref tsA, .int (nI L.length), .ref reA, tx_deleters, tx_gone, tx_waits])), (tsA, .inl (cI, 4000, .inl sl)), (reA, .inl (cL, 2800, .inr (.inl (btr_in reu (ka * 7) i))))]) hD hS hA [5, 3, 4] rfl
                refine va_callv (va_runV (As := [.int (nI (L.getD i 0)), .int (nI d9)]) (rest := []) ⟨hx, hb, hml, hown, hts⟩ (m_Tx_layEdge l dC dI cI cB cL cZ cR h tsA reA (tx_order) (tx_length) (tx_size) (tx_unsure) (tx_stranded) (tx_dead) (tx_stock) (tx_changes) (.ref ln) (tx_loaded) (tx_version) (tx_loadedFile) (.ref trA) (.int (nI L.length)) (tx_deleters) (tx_gone) (tx_waits) sl (btr_in reu (ka * 7) i) (L.getD i 0) d9 i kb H.size (by omega) (by omega) hsa hsb (by omega) (by omega)) (cwV 2 hts (xg_V gw_1068 gw_1070 (xg_p 43 (q := (⟨"PatchStore$Text", "layEdge", "(II)V"⟩, 19)) (by decide +kernel)) gw_9 gw_1071) rfl rfl rfl (by decide +kernel) ⟨Nat.le_of_ble_eq_true rfl, Nat.le_of_ble_eq_true rfl⟩) ⟨xw_blind, va_recv hK hPc (ci := 10) (q0 := 0) rfl rfl, fun U hU hW => ⟨rfl, by rw [hU], by rw [hU]; exact hPc, va_K.moved hW.alike hK, hDc.weaken (fun _ _ _ _ => trivial)⟩⟩ rfl rfl hl.1 rfl (lv_room (Nat.le_of_ble_eq_true rfl)) d_Tx_layInsertEdges_99 ⟨Nat.le_of_ble_eq_true rfl, Nat.le_of_ble_eq_true rfl⟩) hS (fun q _ h => hFc q h) hFc (fun u9 t H1 locs ht hvm hw hB hz1 hk1 hS => ?_)
                obtain ⟨hP1, hK1, hD1⟩ := hB
                rw [ht] at hP1
                obtain ⟨hP, hD⟩ := va_join (wr := [(luA, .inl (cI, 4000, .inl S.lu)), (ldA, .inl (cI, 4000, .inl S.ld)), (trA, .inl (cI, 400, .inl rw9)), (ln, .inr (4, [ln_at, ln_length, ln_change, .ref lpA, .ref luA, .ref ldA, ln_ofFile, .int (nI (S.NLp S.P))])), (lpA, .inl (cI, 4000, .inl S.lp))]) (w1 := [(h, .inr (10, [tx_order, tx_length, tx_size, tx_unsure, tx_stranded, tx_dead, tx_stock, tx_changes, .ref ln, tx_loaded, tx_version, tx_loadedFile, .ref trA, .ref tsA, .int (nI L.length), .ref reA, tx_deleters, tx_gone, tx_waits])), (tsA, .inl (cI, 4000, .inl sl)), (reA, .inl (cL, 2800, .inr (.inl (btr_in (btr_in reu (ka * 7) i) (i * 7) kb))))]) hP hD [5, 3, 4] [0, 1, 2, 6, 7] rfl rfl (by decide) (by decide) hk1 hFc hP1 hD1
                generalize H1 = H at hP hS ⊢
                have hP : va_P (dC, dI) classes [(luA, .inl (cI, 4000, .inl S.lu)), (ldA, .inl (cI, 4000, .inl S.ld)), (trA, .inl (cI, 400, .inl rw9)), (ln, .inr (4, [ln_at, ln_length, ln_change, .ref lpA, .ref luA, .ref ldA, ln_ofFile, .int (nI (S.NLp S.P))])), (lpA, .inl (cI, 4000, .inl S.lp)), (h, .inr (10, [tx_order, tx_length, tx_size, tx_unsure, tx_stranded, tx_dead, tx_stock, tx_changes, .ref ln, tx_loaded, tx_version, tx_loadedFile, .ref trA, .ref tsA, .int (nI L.length), .ref reA, tx_deleters, tx_gone, tx_waits])), (tsA, .inl (cI, 4000, .inl sl)), (reA, .inl (cL, 2800, .inr (.inl (btr_in (btr_in reu (ka * 7) i) (i * 7) kb))))] H := hP
                have hD : va_D A [(luA, .inl (cI, 4000, .inl S.lu)), (ldA, .inl (cI, 4000, .inl S.ld)), (trA, .inl (cI, 400, .inl rw9)), (ln, .inr (4, [ln_at, ln_length, ln_change, .ref lpA, .ref luA, .ref ldA, ln_ofFile, .int (nI (S.NLp S.P))])), (lpA, .inl (cI, 4000, .inl S.lp)), (h, .inr (10, [tx_order, tx_length, tx_size, tx_unsure, tx_stranded, tx_dead, tx_stock, tx_changes, .ref ln, tx_loaded, tx_version, tx_loadedFile, .ref trA, .ref tsA, .int (nI L.length), .ref reA, tx_deleters, tx_gone, tx_waits])), (tsA, .inl (cI, 4000, .inl sl)), (reA, .inl (cL, 2800, .inr (.inl (btr_in (btr_in reu (ka * 7) i) (i * 7) kb))))] := hD
                have hq2 : bR (btr_in (btr_in reu (ka * 7) i) (i * 7) kb) L.length (lE L (fun l m => (iE S L i l m ∨ eA S (L.getD i 0) l m) ∨ eB S (L.getD i 0) l m)) := hq1.add (by omega) (lE_add hsl hL4 n_7 hkb1 (fun l m => or_congr_right (by rw [hkb2]; exact eB_3 hla hdn hd4 l m)))
                refine lv_iinc (v := nI (i + 1)) (lv' := [(1, .int (nI (i + 1))), (2, .int (nI (L.getD i 0))), (0, .ref h)]) hx hb d_Tx_layInsertEdges_102 hl (k := 2) rfl (by exact nI_add _ _) (by decide) rfl (fun ls hl => ?_)
                refine lv_goto (tgt := 2) hx hb d_Tx_layInsertEdges_105 (by decide) ?_
                exact ih_2 (i + 1) (btr_in (btr_in reu (ka * 7) i) (i * 7) kb) _ _ _ (by omega) (by omega) (hq2.iff (fun a b _ _ => lE_iE a b)) (hP.sub [5, 3, 4, 0, 1, 2, 6, 7] rfl) (hD.sub [5, 3, 4, 0, 1, 2, 6, 7] (by decide) rfl) hS (lv_sub hl [2, 0] rfl)
              · have hP : va_P (dC, dI) classes [(luA, .inl (cI, 4000, .inl S.lu)), (ldA, .inl (cI, 4000, .inl S.ld)), (trA, .inl (cI, 400, .inl rw9)), (tsA, .inl (cI, 4000, .inl sl)), (reA, .inl (cL, 2800, .inr (.inl (btr_in reu (ka * 7) i)))), (h, .inr (10, [tx_order, tx_length, tx_size, tx_unsure, tx_stranded, tx_dead, tx_stock, tx_changes, .ref ln, tx_loaded, tx_version, tx_loadedFile, .ref trA, .ref tsA, .int (nI L.length), .ref reA, tx_deleters, tx_gone, tx_waits])), (ln, .inr (4, [ln_at, ln_length, ln_change, .ref lpA, .ref luA, .ref ldA, ln_ofFile, .int (nI (S.NLp S.P))])), (lpA, .inl (cI, 4000, .inl S.lp))] H := hP
                have hD : va_D A [(luA, .inl (cI, 4000, .inl S.lu)), (ldA, .inl (cI, 4000, .inl S.ld)), (trA, .inl (cI, 400, .inl rw9)), (tsA, .inl (cI, 4000, .inl sl)), (reA, .inl (cL, 2800, .inr (.inl (btr_in reu (ka * 7) i)))), (h, .inr (10, [tx_order, tx_length, tx_size, tx_unsure, tx_stranded, tx_dead, tx_stock, tx_changes, .ref ln, tx_loaded, tx_version, tx_loadedFile, .ref trA, .ref tsA, .int (nI L.length), .ref reA, tx_deleters, tx_gone, tx_waits])), (ln, .inr (4, [ln_at, ln_length, ln_change, .ref lpA, .ref luA, .ref ldA, ln_ofFile, .int (nI (S.NLp S.P))])), (lpA, .inl (cI, 4000, .inl S.lp))] := hD
                refine lv_if_eq (tgt := 102) hx hb d_Tx_layInsertEdges_85 (by decide) (fun _ => ?_) (fun c_85 => absurd (by decide) c_85)
                have hq2 : bR (btr_in reu (ka * 7) i) L.length (lE L (fun l m => (iE S L i l m ∨ eA S (L.getD i 0) l m) ∨ eB S (L.getD i 0) l m)) := hq1.iff (fun a b _ _ => lE_or (eB_2 hnl) a b)
                refine lv_iinc (v := nI (i + 1)) (lv' := [(1, .int (nI (i + 1))), (2, .int (nI (L.getD i 0))), (0, .ref h)]) hx hb d_Tx_layInsertEdges_102 hl (k := 2) rfl (by exact nI_add _ _) (by decide) rfl (fun ls hl => ?_)
                refine lv_goto (tgt := 2) hx hb d_Tx_layInsertEdges_105 (by decide) ?_
                exact ih_2 (i + 1) (btr_in reu (ka * 7) i) _ _ _ (by omega) (by omega) (hq2.iff (fun a b _ _ => lE_iE a b)) (hP.sub [5, 6, 7, 0, 1, 2, 3, 4] rfl) (hD.sub [5, 6, 7, 0, 1, 2, 3, 4] (by decide) rfl) hS (lv_sub hl [2, 0] rfl)
        · have n_26 : 0 < pl := Nat.lt_of_not_le (fun z => c_26 ((nI_leI (a := pl) (b := 0) (by omega) (by omega)).mpr z))
          have hp0 : ¬ S.lp (L.getD i 0) = 0 := by rw [hpl1]; exact fun z => absurd ((nI_eq (b := 0) (by omega) (by omega)).mp z) (by omega)
          refine lv_aload_n hx hb d_Tx_layInsertEdges_29 rfl (lv_at hl 1 rfl) ?_
          refine lv_iload_n hx hb d_Tx_layInsertEdges_30 rfl (lv_at hl 0 rfl) ?_
          refine lv_iconst (v := 1) hx hb d_Tx_layInsertEdges_31 (by decide) ?_
          refine lv_isub hx hb d_Tx_layInsertEdges_32 ?_
          refine lv_topi (fun x_12 ex_12 => ?_)
          obtain rfl : x_12 = nI ((L.getD i 0) - 1) := by rw [ex_12]; first | done | (exact nI_subN (b := 1) (hpl3 n_26).1)
          refine lv_iload_n hx hb d_Tx_layInsertEdges_33 rfl (lv_at hl 0 rfl) ?_
          obtain ⟨ka, hka1, hka2⟩ := mem_getD (hpl3 n_26).2
          have hsa : sl ((L.getD i 0) - 1) = nI ka := by rw [← hka2]; exact hsl ka hka1
          have hsb : sl (L.getD i 0) = nI i := hsl i n_7
          have hPc := hP.sub (ws' := [(h, .inr (10, [tx_order, tx_length, tx_size, tx_unsure, tx_stranded, tx_dead, tx_stock, tx_changes, .ref ln, tx_loaded, tx_version, tx_loadedFile, .ref trA, .ref tsA, .int (nI L.length), .ref reA, tx_deleters, tx_gone, tx_waits])), (tsA, .inl (cI, 4000, .inl sl)), (reA, .inl (cL, 2800, .inr (.inl reu)))]) [0, 6, 7] rfl
          have hDc := hD.sub (ws' := [(h, .inr (10, [tx_order, tx_length, tx_size, tx_unsure, tx_stranded, tx_dead, tx_stock, tx_changes, .ref ln, tx_loaded, tx_version, tx_loadedFile, .ref trA, .ref tsA, .int (nI L.length), .ref reA, tx_deleters, tx_gone, tx_waits])), (tsA, .inl (cI, 4000, .inl sl)), (reA, .inl (cL, 2800, .inr (.inl reu)))]) [0, 6, 7] (by decide) rfl
          have hFc := va_free (wc := [(h, .inr (10, [tx_order, tx_length, tx_size, tx_unsure, tx_stranded, tx_dead, tx_stock, tx_changes, .ref ln, tx_loaded, tx_version, tx_loadedFile, .ref trA, .ref tsA, .int (nI L.length), .ref reA, tx_deleters, tx_gone, tx_waits])), (tsA, .inl (cI, 4000, .inl sl)), (reA, .inl (cL, 2800, .inr (.inl reu)))]) hD hS hA [0, 6, 7] rfl
          refine va_callv (va_runV (As := [.int (nI ((L.getD i 0) - 1)), .int (nI (L.getD i 0))]) (rest := []) ⟨hx, hb, hml, hown, hts⟩ (m_Tx_layEdge l dC dI cI cB cL cZ cR h tsA reA (tx_order) (tx_length) (tx_size) (tx_unsure) (tx_stranded) (tx_dead) (tx_stock) (tx_changes) (.ref ln) (tx_loaded) (tx_version) (tx_loadedFile) (.ref trA) (.int (nI L.length)) (tx_deleters) (tx_gone) (tx_waits) sl reu ((L.getD i 0) - 1) (L.getD i 0) ka i H.size (by omega) (by omega) hsa hsb (by omega) (by omega)) (cwV 2 hts (xg_V gw_1068 gw_1070 (xg_p 43 (q := (⟨"PatchStore$Text", "layEdge", "(II)V"⟩, 19)) (by decide +kernel)) gw_9 gw_1071) rfl rfl rfl (by decide +kernel) ⟨Nat.le_of_ble_eq_true rfl, Nat.le_of_ble_eq_true rfl⟩) ⟨xw_blind, va_recv hK hPc (ci := 10) (q0 := 0) rfl rfl, fun U hU hW => ⟨rfl, by rw [hU], by rw [hU]; exact hPc, va_K.moved hW.alike hK, hDc.weaken (fun _ _ _ _ => trivial)⟩⟩ rfl rfl hl.1 rfl (lv_room (Nat.le_of_ble_eq_true rfl)) d_Tx_layInsertEdges_34 ⟨Nat.le_of_ble_eq_true rfl, Nat.le_of_ble_eq_true rfl⟩) hS (fun q _ h => hFc q h) hFc (fun u9 t H1 locs ht hvm hw hB hz1 hk1 hS => ?_)
          obtain ⟨hP1, hK1, hD1⟩ := hB
          rw [ht] at hP1
          obtain ⟨hP, hD⟩ := va_join (wr := [(ln, .inr (4, [ln_at, ln_length, ln_change, .ref lpA, .ref luA, .ref ldA, ln_ofFile, .int (nI (S.NLp S.P))])), (lpA, .inl (cI, 4000, .inl S.lp)), (luA, .inl (cI, 4000, .inl S.lu)), (ldA, .inl (cI, 4000, .inl S.ld)), (trA, .inl (cI, 400, .inl rw9))]) (w1 := [(h, .inr (10, [tx_order, tx_length, tx_size, tx_unsure, tx_stranded, tx_dead, tx_stock, tx_changes, .ref ln, tx_loaded, tx_version, tx_loadedFile, .ref trA, .ref tsA, .int (nI L.length), .ref reA, tx_deleters, tx_gone, tx_waits])), (tsA, .inl (cI, 4000, .inl sl)), (reA, .inl (cL, 2800, .inr (.inl (btr_in reu (ka * 7) i))))]) hP hD [0, 6, 7] [1, 2, 3, 4, 5] rfl rfl (by decide) (by decide) hk1 hFc hP1 hD1
          generalize H1 = H at hP hS ⊢
          have hP : va_P (dC, dI) classes [(ln, .inr (4, [ln_at, ln_length, ln_change, .ref lpA, .ref luA, .ref ldA, ln_ofFile, .int (nI (S.NLp S.P))])), (lpA, .inl (cI, 4000, .inl S.lp)), (luA, .inl (cI, 4000, .inl S.lu)), (ldA, .inl (cI, 4000, .inl S.ld)), (trA, .inl (cI, 400, .inl rw9)), (h, .inr (10, [tx_order, tx_length, tx_size, tx_unsure, tx_stranded, tx_dead, tx_stock, tx_changes, .ref ln, tx_loaded, tx_version, tx_loadedFile, .ref trA, .ref tsA, .int (nI L.length), .ref reA, tx_deleters, tx_gone, tx_waits])), (tsA, .inl (cI, 4000, .inl sl)), (reA, .inl (cL, 2800, .inr (.inl (btr_in reu (ka * 7) i))))] H := hP
          have hD : va_D A [(ln, .inr (4, [ln_at, ln_length, ln_change, .ref lpA, .ref luA, .ref ldA, ln_ofFile, .int (nI (S.NLp S.P))])), (lpA, .inl (cI, 4000, .inl S.lp)), (luA, .inl (cI, 4000, .inl S.lu)), (ldA, .inl (cI, 4000, .inl S.ld)), (trA, .inl (cI, 400, .inl rw9)), (h, .inr (10, [tx_order, tx_length, tx_size, tx_unsure, tx_stranded, tx_dead, tx_stock, tx_changes, .ref ln, tx_loaded, tx_version, tx_loadedFile, .ref trA, .ref tsA, .int (nI L.length), .ref reA, tx_deleters, tx_gone, tx_waits])), (tsA, .inl (cI, 4000, .inl sl)), (reA, .inl (cL, 2800, .inr (.inl (btr_in reu (ka * 7) i))))] := hD
          refine lv_goto (tgt := 67) hx hb d_Tx_layInsertEdges_37 (by decide) ?_
          have hq1 : bR (btr_in reu (ka * 7) i) L.length (lE L (fun l m => iE S L i l m ∨ eA S (L.getD i 0) l m)) := hq.add (by omega) (lE_add hsl hL4 hka1 n_7 (fun l m => or_congr_right (by rw [hka2]; exact eA_1 hp0 (hpl3 n_26).1 l m)))
          rcases hdn with hdn | ⟨d9, hd1, hdn⟩
          · skip
            refine lv_aload_n hx hb d_Tx_layInsertEdges_67 rfl (lv_at hl 1 rfl) ?_
            refine va_get (D := (dC, dI)) (ci := 10) (v := .ref ln) (C := R_Tx) (T := F_Tx) (N := 19) hx hb hts i_Tx hown hK hP 5 rfl rfl 8 (by decide) (hts _ gw_390) (fun _ h9 => h9) rfl d_Tx_layInsertEdges_68 ?_
            refine va_get (D := (dC, dI)) (ci := 4) (v := .ref ldA) (C := R_Li) (T := F_Li) (N := 8) hx hb hts i_Li hown hK hP 0 rfl rfl 5 (by decide) (hts _ gw_158) (fun _ h9 => h9) rfl d_Tx_layInsertEdges_71 ?_
            refine lv_iload_n hx hb d_Tx_layInsertEdges_74 rfl (lv_at hl 0 rfl) ?_
            refine va_iald hx hb hK hP 3 0 rfl rfl (vp_in_nI (by omega) (by omega)) d_Tx_layInsertEdges_75 ?_
            rw [show (nI (L.getD i 0)).toNatClampNeg = (L.getD i 0) from nI_clamp (by omega)]
            refine lv_topi (fun x_13 ex_13 => ?_)
            obtain rfl : x_13 = (-1) := by rw [ex_13]; first | done | (exact hdn)
            refine lv_iconst (v := (-1)) hx hb d_Tx_layInsertEdges_76 (by decide) ?_
            refine lv_icmp_eq (tgt := 102) hx hb d_Tx_layInsertEdges_77 (by decide) (fun _ => ?_) (fun c_77 => absurd (by decide) c_77)
            have hq2 : bR (btr_in reu (ka * 7) i) L.length (lE L (fun l m => (iE S L i l m ∨ eA S (L.getD i 0) l m) ∨ eB S (L.getD i 0) l m)) := hq1.iff (fun a b _ _ => lE_or (eB_1 hdn) a b)
            refine lv_iinc (v := nI (i + 1)) (lv' := [(1, .int (nI (i + 1))), (2, .int (nI (L.getD i 0))), (0, .ref h)]) hx hb d_Tx_layInsertEdges_102 hl (k := 2) rfl (by exact nI_add _ _) (by decide) rfl (fun ls hl => ?_)
            refine lv_goto (tgt := 2) hx hb d_Tx_layInsertEdges_105 (by decide) ?_
            exact ih_2 (i + 1) (btr_in reu (ka * 7) i) _ _ _ (by omega) (by omega) (hq2.iff (fun a b _ _ => lE_iE a b)) (hP.sub [5, 0, 1, 2, 3, 4, 6, 7] rfl) (hD.sub [5, 0, 1, 2, 3, 4, 6, 7] (by decide) rfl) hS (lv_sub hl [2, 0] rfl)
          · skip
            refine lv_aload_n hx hb d_Tx_layInsertEdges_67 rfl (lv_at hl 1 rfl) ?_
            refine va_get (D := (dC, dI)) (ci := 10) (v := .ref ln) (C := R_Tx) (T := F_Tx) (N := 19) hx hb hts i_Tx hown hK hP 5 rfl rfl 8 (by decide) (hts _ gw_390) (fun _ h9 => h9) rfl d_Tx_layInsertEdges_68 ?_
            refine va_get (D := (dC, dI)) (ci := 4) (v := .ref ldA) (C := R_Li) (T := F_Li) (N := 8) hx hb hts i_Li hown hK hP 0 rfl rfl 5 (by decide) (hts _ gw_158) (fun _ h9 => h9) rfl d_Tx_layInsertEdges_71 ?_
            have hd4 : d9 < 4000 := by have := (hgr _ hd1).1; omega
            refine lv_iload_n hx hb d_Tx_layInsertEdges_74 rfl (lv_at hl 0 rfl) ?_
            refine va_iald hx hb hK hP 3 0 rfl rfl (vp_in_nI (by omega) (by omega)) d_Tx_layInsertEdges_75 ?_
            rw [show (nI (L.getD i 0)).toNatClampNeg = (L.getD i 0) from nI_clamp (by omega)]
            refine lv_topi (fun x_14 ex_14 => ?_)
            obtain rfl : x_14 = nI d9 := by rw [ex_14]; first | done | (exact hdn)
            refine lv_iconst (v := (-1)) hx hb d_Tx_layInsertEdges_76 (by decide) ?_
            refine lv_icmp_eq (tgt := 102) hx hb d_Tx_layInsertEdges_77 (by decide) (fun c_77 => absurd c_77 (fun z => nI_nm1 (by omega) z.symm)) (fun _ => ?_)
            refine lv_aload_n hx hb d_Tx_layInsertEdges_80 rfl (lv_at hl 1 rfl) ?_
            refine lv_iload_n hx hb d_Tx_layInsertEdges_81 rfl (lv_at hl 0 rfl) ?_
            have hPc := hP.sub (ws' := [(h, .inr (10, [tx_order, tx_length, tx_size, tx_unsure, tx_stranded, tx_dead, tx_stock, tx_changes, .ref ln, tx_loaded, tx_version, tx_loadedFile, .ref trA, .ref tsA, .int (nI L.length), .ref reA, tx_deleters, tx_gone, tx_waits])), (ln, .inr (4, [ln_at, ln_length, ln_change, .ref lpA, .ref luA, .ref ldA, ln_ofFile, .int (nI (S.NLp S.P))])), (lpA, .inl (cI, 4000, .inl S.lp))]) [5, 0, 1] rfl
            have hDc := hD.sub (ws' := [(h, .inr (10, [tx_order, tx_length, tx_size, tx_unsure, tx_stranded, tx_dead, tx_stock, tx_changes, .ref ln, tx_loaded, tx_version, tx_loadedFile, .ref trA, .ref tsA, .int (nI L.length), .ref reA, tx_deleters, tx_gone, tx_waits])), (ln, .inr (4, [ln_at, ln_length, ln_change, .ref lpA, .ref luA, .ref ldA, ln_ofFile, .int (nI (S.NLp S.P))])), (lpA, .inl (cI, 4000, .inl S.lp))]) [5, 0, 1] (by decide) rfl
            have hFc := va_free (wc := [(h, .inr (10, [tx_order, tx_length, tx_size, tx_unsure, tx_stranded, tx_dead, tx_stock, tx_changes, .ref ln, tx_loaded, tx_version, tx_loadedFile, .ref trA, .ref tsA, .int (nI L.length), .ref reA, tx_deleters, tx_gone, tx_waits])), (ln, .inr (4, [ln_at, ln_length, ln_change, .ref lpA, .ref luA, .ref ldA, ln_ofFile, .int (nI (S.NLp S.P))])), (lpA, .inl (cI, 4000, .inl S.lp))]) hD hS hA [5, 0, 1] rfl
            refine va_calli (va_runV (As := [.int (nI (L.getD i 0))]) (rest := []) ⟨hx, hb, hml, hown, hts⟩ (m_Tx_isLast l dC dI cI cB cL cZ cR h ln lpA (tx_order) (tx_length) (tx_size) (tx_unsure) (tx_stranded) (tx_dead) (tx_stock) (tx_changes) (tx_loaded) (tx_version) (tx_loadedFile) (.ref trA) (.ref tsA) (.int (nI L.length)) (.ref reA) (tx_deleters) (tx_gone) (tx_waits) (ln_at) (ln_length) (ln_change) (.ref luA) (.ref ldA) (ln_ofFile) S (L.getD i 0) H.size hgx.1 hnl4) (cwV 1 hts (xg_V gw_1072 gw_1074 (xg_p 44 (q := (⟨"PatchStore$Text", "isLastOfInsert", "(I)Z"⟩, 19)) (by decide +kernel)) gw_9 gw_1075) rfl rfl rfl (by decide +kernel) ⟨Nat.le_of_ble_eq_true rfl, Nat.le_of_ble_eq_true rfl⟩) ⟨xw_blind, va_recv hK hPc (ci := 10) (q0 := 0) rfl rfl, fun U hU hW => ⟨rfl, by rw [hU], by rw [hU]; exact hPc, va_K.moved hW.alike hK, hDc.weaken (fun _ _ _ _ => trivial)⟩⟩ rfl rfl hl.1 rfl (lv_room (Nat.le_of_ble_eq_true rfl)) d_Tx_layInsertEdges_82 ⟨Nat.le_of_ble_eq_true rfl, Nat.le_of_ble_eq_true rfl⟩) hS (fun q _ h => hFc q h) hFc (fun r9 u t H1 locs ht hvm hw hB hz1 hk1 hS => ?_)
            obtain ⟨hP1, hK1, hD1⟩ := hB
            rw [ht] at hP1
            obtain ⟨hP, hD⟩ := va_join (wr := [(luA, .inl (cI, 4000, .inl S.lu)), (ldA, .inl (cI, 4000, .inl S.ld)), (trA, .inl (cI, 400, .inl rw9)), (tsA, .inl (cI, 4000, .inl sl)), (reA, .inl (cL, 2800, .inr (.inl (btr_in reu (ka * 7) i))))]) (w1 := [(h, .inr (10, [tx_order, tx_length, tx_size, tx_unsure, tx_stranded, tx_dead, tx_stock, tx_changes, .ref ln, tx_loaded, tx_version, tx_loadedFile, .ref trA, .ref tsA, .int (nI L.length), .ref reA, tx_deleters, tx_gone, tx_waits])), (ln, .inr (4, [ln_at, ln_length, ln_change, .ref lpA, .ref luA, .ref ldA, ln_ofFile, .int (nI (S.NLp S.P))])), (lpA, .inl (cI, 4000, .inl S.lp))]) hP hD [5, 0, 1] [2, 3, 4, 6, 7] rfl rfl (by decide) (by decide) hk1 hFc hP1 hD1
            generalize H1 = H at hP hS ⊢
            have hP : va_P (dC, dI) classes [(luA, .inl (cI, 4000, .inl S.lu)), (ldA, .inl (cI, 4000, .inl S.ld)), (trA, .inl (cI, 400, .inl rw9)), (tsA, .inl (cI, 4000, .inl sl)), (reA, .inl (cL, 2800, .inr (.inl (btr_in reu (ka * 7) i)))), (h, .inr (10, [tx_order, tx_length, tx_size, tx_unsure, tx_stranded, tx_dead, tx_stock, tx_changes, .ref ln, tx_loaded, tx_version, tx_loadedFile, .ref trA, .ref tsA, .int (nI L.length), .ref reA, tx_deleters, tx_gone, tx_waits])), (ln, .inr (4, [ln_at, ln_length, ln_change, .ref lpA, .ref luA, .ref ldA, ln_ofFile, .int (nI (S.NLp S.P))])), (lpA, .inl (cI, 4000, .inl S.lp))] H := hP
            have hD : va_D A [(luA, .inl (cI, 4000, .inl S.lu)), (ldA, .inl (cI, 4000, .inl S.ld)), (trA, .inl (cI, 400, .inl rw9)), (tsA, .inl (cI, 4000, .inl sl)), (reA, .inl (cL, 2800, .inr (.inl (btr_in reu (ka * 7) i)))), (h, .inr (10, [tx_order, tx_length, tx_size, tx_unsure, tx_stranded, tx_dead, tx_stock, tx_changes, .ref ln, tx_loaded, tx_version, tx_loadedFile, .ref trA, .ref tsA, .int (nI L.length), .ref reA, tx_deleters, tx_gone, tx_waits])), (ln, .inr (4, [ln_at, ln_length, ln_change, .ref lpA, .ref luA, .ref ldA, ln_ofFile, .int (nI (S.NLp S.P))])), (lpA, .inl (cI, 4000, .inl S.lp))] := hD
            rcases hw with ⟨rfl, hla⟩ | ⟨rfl, hnl⟩
            · have hP : va_P (dC, dI) classes [(luA, .inl (cI, 4000, .inl S.lu)), (ldA, .inl (cI, 4000, .inl S.ld)), (trA, .inl (cI, 400, .inl rw9)), (tsA, .inl (cI, 4000, .inl sl)), (reA, .inl (cL, 2800, .inr (.inl (btr_in reu (ka * 7) i)))), (h, .inr (10, [tx_order, tx_length, tx_size, tx_unsure, tx_stranded, tx_dead, tx_stock, tx_changes, .ref ln, tx_loaded, tx_version, tx_loadedFile, .ref trA, .ref tsA, .int (nI L.length), .ref reA, tx_deleters, tx_gone, tx_waits])), (ln, .inr (4, [ln_at, ln_length, ln_change, .ref lpA, .ref luA, .ref ldA, ln_ofFile, .int (nI (S.NLp S.P))])), (lpA, .inl (cI, 4000, .inl S.lp))] H := hP
              have hD : va_D A [(luA, .inl (cI, 4000, .inl S.lu)), (ldA, .inl (cI, 4000, .inl S.ld)), (trA, .inl (cI, 400, .inl rw9)), (tsA, .inl (cI, 4000, .inl sl)), (reA, .inl (cL, 2800, .inr (.inl (btr_in reu (ka * 7) i)))), (h, .inr (10, [tx_order, tx_length, tx_size, tx_unsure, tx_stranded, tx_dead, tx_stock, tx_changes, .ref ln, tx_loaded, tx_version, tx_loadedFile, .ref trA, .ref tsA, .int (nI L.length), .ref reA, tx_deleters, tx_gone, tx_waits])), (ln, .inr (4, [ln_at, ln_length, ln_change, .ref lpA, .ref luA, .ref ldA, ln_ofFile, .int (nI (S.NLp S.P))])), (lpA, .inl (cI, 4000, .inl S.lp))] := hD
              refine lv_if_eq (tgt := 102) hx hb d_Tx_layInsertEdges_85 (by decide) (fun c_85 => absurd c_85 (by decide)) (fun _ => ?_)
              refine lv_aload_n hx hb d_Tx_layInsertEdges_88 rfl (lv_at hl 1 rfl) ?_
              refine lv_iload_n hx hb d_Tx_layInsertEdges_89 rfl (lv_at hl 0 rfl) ?_
              refine lv_aload_n hx hb d_Tx_layInsertEdges_90 rfl (lv_at hl 1 rfl) ?_
              refine va_get (D := (dC, dI)) (ci := 10) (v := .ref ln) (C := R_Tx) (T := F_Tx) (N := 19) hx hb hts i_Tx hown hK hP 5 rfl rfl 8 (by decide) (hts _ gw_390) (fun _ h9 => h9) rfl d_Tx_layInsertEdges_91 ?_
              refine va_get (D := (dC, dI)) (ci := 4) (v := .ref ldA) (C := R_Li) (T := F_Li) (N := 8) hx hb hts i_Li hown hK hP 6 rfl rfl 5 (by decide) (hts _ gw_158) (fun _ h9 => h9) rfl d_Tx_layInsertEdges_94 ?_
              refine lv_iload_n hx hb d_Tx_layInsertEdges_97 rfl (lv_at hl 0 rfl) ?_
              refine va_iald hx hb hK hP 1 0 rfl rfl (vp_in_nI (by omega) (by omega)) d_Tx_layInsertEdges_98 ?_
              rw [show (nI (L.getD i 0)).toNatClampNeg = (L.getD i 0) from nI_clamp (by omega)]
              refine lv_topi (fun x_15 ex_15 => ?_)
              obtain rfl : x_15 = nI d9 := by rw [ex_15]; first | done | (exact hdn)
              obtain ⟨kb, hkb1, hkb2⟩ := mem_getD hd1
              have hsb : sl d9 = nI kb := by rw [← hkb2]; exact hsl kb hkb1
              have hsa : sl (L.getD i 0) = nI i := hsl i n_7
              have hPc := hP.sub (ws' := [(h, .inr (10, [tx_order, tx_length, tx_size, tx_unsure, tx_stranded, tx_dead, tx_stock, tx_changes, .ref ln, tx_loaded, tx_version, tx_loadedFile, .ref trA, .ref tsA, .int (nI L.length), .ref reA, tx_deleters, tx_gone, tx_waits])), (tsA, .inl (cI, 4000, .inl sl)), (reA, .inl (cL, 2800, .inr (.inl (btr_in reu (ka * 7) i))))]) [5, 3, 4] rfl
              have hDc := hD.sub (ws' := [(h, .inr (10, [tx_order, tx_length, tx_size, tx_unsure, tx_stranded, tx_dead, tx_stock, tx_changes, .ref ln, tx_loaded, tx_version, tx_loadedFile, .ref trA, .ref tsA, .int (nI L.length), .ref reA, tx_deleters, tx_gone, tx_waits])), (tsA, .inl (cI, 4000, .inl sl)), (reA, .inl (cL, 2800, .inr (.inl (btr_in reu (ka * 7) i))))]) [5, 3, 4] (by decide) rfl
              have hFc := va_free (wc := [(h, .inr (10, [tx_order, tx_length, tx_size, tx_unsure, tx_stranded, tx_dead, tx_stock, tx_changes, .ref ln, tx_loaded, tx_version, tx_loadedFile, .ref trA, .ref tsA, .int (nI L.length), .ref reA, tx_deleters, tx_gone, tx_waits])), (tsA, .inl (cI, 4000, .inl sl)), (reA, .inl (cL, 2800, .inr (.inl (btr_in reu (ka * 7) i))))]) hD hS hA [5, 3, 4] rfl
              refine va_callv (va_runV (As := [.int (nI (L.getD i 0)), .int (nI d9)]) (rest := []) ⟨hx, hb, hml, hown, hts⟩ (m_Tx_layEdge l dC dI cI cB cL cZ cR h tsA reA (tx_order) (tx_length) (tx_size) (tx_unsure) (tx_stranded) (tx_dead) (tx_stock) (tx_changes) (.ref ln) (tx_loaded) (tx_version) (tx_loadedFile) (.ref trA) (.int (nI L.length)) (tx_deleters) (tx_gone) (tx_waits) sl (btr_in reu (ka * 7) i) (L.getD i 0) d9 i kb H.size (by omega) (by omega) hsa hsb (by omega) (by omega)) (cwV 2 hts (xg_V gw_1068 gw_1070 (xg_p 43 (q := (⟨"PatchStore$Text", "layEdge", "(II)V"⟩, 19)) (by decide +kernel)) gw_9 gw_1071) rfl rfl rfl (by decide +kernel) ⟨Nat.le_of_ble_eq_true rfl, Nat.le_of_ble_eq_true rfl⟩) ⟨xw_blind, va_recv hK hPc (ci := 10) (q0 := 0) rfl rfl, fun U hU hW => ⟨rfl, by rw [hU], by rw [hU]; exact hPc, va_K.moved hW.alike hK, hDc.weaken (fun _ _ _ _ => trivial)⟩⟩ rfl rfl hl.1 rfl (lv_room (Nat.le_of_ble_eq_true rfl)) d_Tx_layInsertEdges_99 ⟨Nat.le_of_ble_eq_true rfl, Nat.le_of_ble_eq_true rfl⟩) hS (fun q _ h => hFc q h) hFc (fun u9 t H1 locs ht hvm hw hB hz1 hk1 hS => ?_)
              obtain ⟨hP1, hK1, hD1⟩ := hB
              rw [ht] at hP1
              obtain ⟨hP, hD⟩ := va_join (wr := [(luA, .inl (cI, 4000, .inl S.lu)), (ldA, .inl (cI, 4000, .inl S.ld)), (trA, .inl (cI, 400, .inl rw9)), (ln, .inr (4, [ln_at, ln_length, ln_change, .ref lpA, .ref luA, .ref ldA, ln_ofFile, .int (nI (S.NLp S.P))])), (lpA, .inl (cI, 4000, .inl S.lp))]) (w1 := [(h, .inr (10, [tx_order, tx_length, tx_size, tx_unsure, tx_stranded, tx_dead, tx_stock, tx_changes, .ref ln, tx_loaded, tx_version, tx_loadedFile, .ref trA, .ref tsA, .int (nI L.length), .ref reA, tx_deleters, tx_gone, tx_waits])), (tsA, .inl (cI, 4000, .inl sl)), (reA, .inl (cL, 2800, .inr (.inl (btr_in (btr_in reu (ka * 7) i) (i * 7) kb))))]) hP hD [5, 3, 4] [0, 1, 2, 6, 7] rfl rfl (by decide) (by decide) hk1 hFc hP1 hD1
              generalize H1 = H at hP hS ⊢
              have hP : va_P (dC, dI) classes [(luA, .inl (cI, 4000, .inl S.lu)), (ldA, .inl (cI, 4000, .inl S.ld)), (trA, .inl (cI, 400, .inl rw9)), (ln, .inr (4, [ln_at, ln_length, ln_change, .ref lpA, .ref luA, .ref ldA, ln_ofFile, .int (nI (S.NLp S.P))])), (lpA, .inl (cI, 4000, .inl S.lp)), (h, .inr (10, [tx_order, tx_length, tx_size, tx_unsure, tx_stranded, tx_dead, tx_stock, tx_changes, .ref ln, tx_loaded, tx_version, tx_loadedFile, .ref trA, .ref tsA, .int (nI L.length), .ref reA, tx_deleters, tx_gone, tx_waits])), (tsA, .inl (cI, 4000, .inl sl)), (reA, .inl (cL, 2800, .inr (.inl (btr_in (btr_in reu (ka * 7) i) (i * 7) kb))))] H := hP
              have hD : va_D A [(luA, .inl (cI, 4000, .inl S.lu)), (ldA, .inl (cI, 4000, .inl S.ld)), (trA, .inl (cI, 400, .inl rw9)), (ln, .inr (4, [ln_at, ln_length, ln_change, .ref lpA, .ref luA, .ref ldA, ln_ofFile, .int (nI (S.NLp S.P))])), (lpA, .inl (cI, 4000, .inl S.lp)), (h, .inr (10, [tx_order, tx_length, tx_size, tx_unsure, tx_stranded, tx_dead, tx_stock, tx_changes, .ref ln, tx_loaded, tx_version, tx_loadedFile, .ref trA, .ref tsA, .int (nI L.length), .ref reA, tx_deleters, tx_gone, tx_waits])), (tsA, .inl (cI, 4000, .inl sl)), (reA, .inl (cL, 2800, .inr (.inl (btr_in (btr_in reu (ka * 7) i) (i * 7) kb))))] := hD
              have hq2 : bR (btr_in (btr_in reu (ka * 7) i) (i * 7) kb) L.length (lE L (fun l m => (iE S L i l m ∨ eA S (L.getD i 0) l m) ∨ eB S (L.getD i 0) l m)) := hq1.add (by omega) (lE_add hsl hL4 n_7 hkb1 (fun l m => or_congr_right (by rw [hkb2]; exact eB_3 hla hdn hd4 l m)))
              refine lv_iinc (v := nI (i + 1)) (lv' := [(1, .int (nI (i + 1))), (2, .int (nI (L.getD i 0))), (0, .ref h)]) hx hb d_Tx_layInsertEdges_102 hl (k := 2) rfl (by exact nI_add _ _) (by decide) rfl (fun ls hl => ?_)
              refine lv_goto (tgt := 2) hx hb d_Tx_layInsertEdges_105 (by decide) ?_
              exact ih_2 (i + 1) (btr_in (btr_in reu (ka * 7) i) (i * 7) kb) _ _ _ (by omega) (by omega) (hq2.iff (fun a b _ _ => lE_iE a b)) (hP.sub [5, 3, 4, 0, 1, 2, 6, 7] rfl) (hD.sub [5, 3, 4, 0, 1, 2, 6, 7] (by decide) rfl) hS (lv_sub hl [2, 0] rfl)
            · have hP : va_P (dC, dI) classes [(luA, .inl (cI, 4000, .inl S.lu)), (ldA, .inl (cI, 4000, .inl S.ld)), (trA, .inl (cI, 400, .inl rw9)), (tsA, .inl (cI, 4000, .inl sl)), (reA, .inl (cL, 2800, .inr (.inl (btr_in reu (ka * 7) i)))), (h, .inr (10, [tx_order, tx_length, tx_size, tx_unsure, tx_stranded, tx_dead, tx_stock, tx_changes, .ref ln, tx_loaded, tx_version, tx_loadedFile, .ref trA, .ref tsA, .int (nI L.length), .ref reA, tx_deleters, tx_gone, tx_waits])), (ln, .inr (4, [ln_at, ln_length, ln_change, .ref lpA, .ref luA, .ref ldA, ln_ofFile, .int (nI (S.NLp S.P))])), (lpA, .inl (cI, 4000, .inl S.lp))] H := hP
              have hD : va_D A [(luA, .inl (cI, 4000, .inl S.lu)), (ldA, .inl (cI, 4000, .inl S.ld)), (trA, .inl (cI, 400, .inl rw9)), (tsA, .inl (cI, 4000, .inl sl)), (reA, .inl (cL, 2800, .inr (.inl (btr_in reu (ka * 7) i)))), (h, .inr (10, [tx_order, tx_length, tx_size, tx_unsure, tx_stranded, tx_dead, tx_stock, tx_changes, .ref ln, tx_loaded, tx_version, tx_loadedFile, .ref trA, .ref tsA, .int (nI L.length), .ref reA, tx_deleters, tx_gone, tx_waits])), (ln, .inr (4, [ln_at, ln_length, ln_change, .ref lpA, .ref luA, .ref ldA, ln_ofFile, .int (nI (S.NLp S.P))])), (lpA, .inl (cI, 4000, .inl S.lp))] := hD
              refine lv_if_eq (tgt := 102) hx hb d_Tx_layInsertEdges_85 (by decide) (fun _ => ?_) (fun c_85 => absurd (by decide) c_85)
              have hq2 : bR (btr_in reu (ka * 7) i) L.length (lE L (fun l m => (iE S L i l m ∨ eA S (L.getD i 0) l m) ∨ eB S (L.getD i 0) l m)) := hq1.iff (fun a b _ _ => lE_or (eB_2 hnl) a b)
              refine lv_iinc (v := nI (i + 1)) (lv' := [(1, .int (nI (i + 1))), (2, .int (nI (L.getD i 0))), (0, .ref h)]) hx hb d_Tx_layInsertEdges_102 hl (k := 2) rfl (by exact nI_add _ _) (by decide) rfl (fun ls hl => ?_)
              refine lv_goto (tgt := 2) hx hb d_Tx_layInsertEdges_105 (by decide) ?_
              exact ih_2 (i + 1) (btr_in reu (ka * 7) i) _ _ _ (by omega) (by omega) (hq2.iff (fun a b _ _ => lE_iE a b)) (hP.sub [5, 6, 7, 0, 1, 2, 3, 4] rfl) (hD.sub [5, 6, 7, 0, 1, 2, 3, 4] (by decide) rfl) hS (lv_sub hl [2, 0] rfl)
  exact loop_2 _ 0 re _ _ _ (Nat.lt_succ_self _) (Nat.zero_le _) (hq0.iff (fun a b _ _ => ⟨fun z => z.elim, fun ⟨_, k, z, _⟩ => absurd z (Nat.not_lt_zero _)⟩)) hP hD hS (lv_sub hl [1, 0] rfl)
