/-! 96.rows.lean.txt -/
theorem gw_101 : (Jvm.Cond.fieldLink "PatchStore$Text" (109 : Nat) "PatchStore$Changes" "file" "[I") ∈ xg_1 := xg_s1 101 rfl rfl
theorem gw_104 : (Jvm.Cond.fieldLink "PatchStore$Text" (118 : Nat) "PatchStore$Changes" "firstLine" "[I") ∈ xg_1 := xg_s1 104 rfl rfl
theorem gw_199 : (Jvm.Cond.fieldLink "PatchStore$Text" (106 : Nat) "PatchStore$Stock" "firstChange" "[I") ∈ xg_1 := xg_s1 199 rfl rfl
theorem gw_211 : (Jvm.Cond.fieldLink "PatchStore$Text" (100 : Nat) "PatchStore$Stock" "byHash" "[I") ∈ xg_1 := xg_s1 211 rfl rfl
theorem gw_237 : (Jvm.Cond.fieldLink "PatchStore$Text" (73 : Nat) "PatchStore$Stock" "patches" "I") ∈ xg_1 := xg_s1 237 rfl rfl
theorem gw_391 : (Jvm.Cond.fieldLink "PatchStore$Text" (50 : Nat) "PatchStore$Text" "loaded" "LPatchStore$Repository;") ∈ xg_1 := xg_s2 151 rfl rfl
theorem gw_393 : (Jvm.Cond.fieldLink "PatchStore$Text" (61 : Nat) "PatchStore$Text" "loadedFile" "I") ∈ xg_1 := xg_s2 153 rfl rfl
theorem gw_396 : (Jvm.Cond.fieldLink "PatchStore$Text" (97 : Nat) "PatchStore$Text" "total" "I") ∈ xg_1 := xg_s2 156 rfl rfl
theorem gw_1052 : (Jvm.Cond.methodLink "PatchStore$Text" (76 : Nat) ({ cls := "PatchStore$Repository", name := "holds", desc := "(I)Z" } : Jvm.MethodName)) ∈ xg_1 := xg_s5 92 rfl rfl
theorem gw_1053 : (Jvm.Cond.methodLink "PatchStore$Text" (103 : Nat) ({ cls := "PatchStore$Text", name := "gatherFrom", desc := "(I)V" } : Jvm.MethodName)) ∈ xg_1 := xg_s5 93 rfl rfl
theorem gw_1055 : (Jvm.Cond.instanceMethod ({ cls := "PatchStore$Text", name := "gatherFrom", desc := "(I)V" } : Jvm.MethodName)) ∈ xg_1 := xg_s5 95 rfl rfl
theorem gw_1056 : (Jvm.Cond.code ({ cls := "PatchStore$Text", name := "gatherFrom", desc := "(I)V" } : Jvm.MethodName) prog_11_method_5_code (6 : Nat) (Option.none : Option Jvm.ClassFile.FieldType)) ∈ xg_1 := xg_s5 96 rfl rfl
theorem gw_1057 : (Jvm.Cond.methodLink "PatchStore$Text" (114 : Nat) ({ cls := "PatchStore$Stock", name := "kind", desc := "(I)I" } : Jvm.MethodName)) ∈ xg_1 := xg_s5 97 rfl rfl
theorem gw_1058 : (Jvm.Cond.methodLink "PatchStore$Text" (121 : Nat) ({ cls := "PatchStore$Stock", name := "linesAt", desc := "(I)I" } : Jvm.MethodName)) ∈ xg_1 := xg_s5 98 rfl rfl
theorem gw_1059 : (Jvm.Cond.methodLink "PatchStore$Text" (124 : Nat) ({ cls := "PatchStore$Stock", name := "two", desc := "(I)I" } : Jvm.MethodName)) ∈ xg_1 := xg_s5 99 rfl rfl
def y_Tx_gatherFrom : MethodName := ⟨"PatchStore$Text", "gatherFrom", "(I)V"⟩
abbrev c_Tx_gatherFrom : Cond := (Jvm.Cond.code ({ cls := "PatchStore$Text", name := "gatherFrom", desc := "(I)V" } : Jvm.MethodName) prog_11_method_5_code (6 : Nat) (Option.none : Option Jvm.ClassFile.FieldType))
abbrev ws_Tx_gatherFrom : List Cond := c_Tx_gatherFrom :: xg_1
theorem d_Tx_gatherFrom_0 : decode prog_11_method_5_code 0 = .ok (.aload_n 0, 1) := by decide +kernel
theorem d_Tx_gatherFrom_1 : decode prog_11_method_5_code 1 = .ok (.getfield 34, 3) := by decide +kernel
theorem d_Tx_gatherFrom_4 : decode prog_11_method_5_code 4 = .ok (.getfield 106, 3) := by decide +kernel
theorem d_Tx_gatherFrom_7 : decode prog_11_method_5_code 7 = .ok (.iload_n 1, 1) := by decide +kernel
theorem d_Tx_gatherFrom_8 : decode prog_11_method_5_code 8 = .ok (.iaload, 1) := by decide +kernel
theorem d_Tx_gatherFrom_9 : decode prog_11_method_5_code 9 = .ok (.istore_n 2, 1) := by decide +kernel
theorem d_Tx_gatherFrom_10 : decode prog_11_method_5_code 10 = .ok (.iload_n 2, 1) := by decide +kernel
theorem d_Tx_gatherFrom_11 : decode prog_11_method_5_code 11 = .ok (.aload_n 0, 1) := by decide +kernel
theorem d_Tx_gatherFrom_12 : decode prog_11_method_5_code 12 = .ok (.getfield 34, 3) := by decide +kernel
theorem d_Tx_gatherFrom_15 : decode prog_11_method_5_code 15 = .ok (.getfield 106, 3) := by decide +kernel
theorem d_Tx_gatherFrom_18 : decode prog_11_method_5_code 18 = .ok (.iload_n 1, 1) := by decide +kernel
theorem d_Tx_gatherFrom_19 : decode prog_11_method_5_code 19 = .ok (.iconst 1, 1) := by decide +kernel
theorem d_Tx_gatherFrom_20 : decode prog_11_method_5_code 20 = .ok (.iadd, 1) := by decide +kernel
theorem d_Tx_gatherFrom_21 : decode prog_11_method_5_code 21 = .ok (.iaload, 1) := by decide +kernel
theorem d_Tx_gatherFrom_22 : decode prog_11_method_5_code 22 = .ok (.if_icmp .ge 127, 3) := by decide +kernel
theorem d_Tx_gatherFrom_25 : decode prog_11_method_5_code 25 = .ok (.aload_n 0, 1) := by decide +kernel
theorem d_Tx_gatherFrom_26 : decode prog_11_method_5_code 26 = .ok (.getfield 44, 3) := by decide +kernel
theorem d_Tx_gatherFrom_29 : decode prog_11_method_5_code 29 = .ok (.getfield 109, 3) := by decide +kernel
theorem d_Tx_gatherFrom_32 : decode prog_11_method_5_code 32 = .ok (.iload_n 2, 1) := by decide +kernel
theorem d_Tx_gatherFrom_33 : decode prog_11_method_5_code 33 = .ok (.iaload, 1) := by decide +kernel
theorem d_Tx_gatherFrom_34 : decode prog_11_method_5_code 34 = .ok (.aload_n 0, 1) := by decide +kernel
theorem d_Tx_gatherFrom_35 : decode prog_11_method_5_code 35 = .ok (.getfield 61, 3) := by decide +kernel
theorem d_Tx_gatherFrom_38 : decode prog_11_method_5_code 38 = .ok (.if_icmp .ne 105, 3) := by decide +kernel
theorem d_Tx_gatherFrom_41 : decode prog_11_method_5_code 41 = .ok (.aload_n 0, 1) := by decide +kernel
theorem d_Tx_gatherFrom_42 : decode prog_11_method_5_code 42 = .ok (.getfield 34, 3) := by decide +kernel
theorem d_Tx_gatherFrom_45 : decode prog_11_method_5_code 45 = .ok (.iload_n 2, 1) := by decide +kernel
theorem d_Tx_gatherFrom_46 : decode prog_11_method_5_code 46 = .ok (.invokevirtual 114, 3) := by decide +kernel
theorem d_Tx_gatherFrom_49 : decode prog_11_method_5_code 49 = .ok (.iconst 2, 1) := by decide +kernel
theorem d_Tx_gatherFrom_50 : decode prog_11_method_5_code 50 = .ok (.if_icmp .eq 6, 3) := by decide +kernel
theorem d_Tx_gatherFrom_53 : decode prog_11_method_5_code 53 = .ok (.goto 90, 3) := by decide +kernel
theorem d_Tx_gatherFrom_56 : decode prog_11_method_5_code 56 = .ok (.aload_n 0, 1) := by decide +kernel
theorem d_Tx_gatherFrom_57 : decode prog_11_method_5_code 57 = .ok (.getfield 44, 3) := by decide +kernel
theorem d_Tx_gatherFrom_60 : decode prog_11_method_5_code 60 = .ok (.getfield 118, 3) := by decide +kernel
theorem d_Tx_gatherFrom_63 : decode prog_11_method_5_code 63 = .ok (.iload_n 2, 1) := by decide +kernel
theorem d_Tx_gatherFrom_64 : decode prog_11_method_5_code 64 = .ok (.iaload, 1) := by decide +kernel
theorem d_Tx_gatherFrom_65 : decode prog_11_method_5_code 65 = .ok (.istore_n 3, 1) := by decide +kernel
theorem d_Tx_gatherFrom_66 : decode prog_11_method_5_code 66 = .ok (.iload_n 3, 1) := by decide +kernel
theorem d_Tx_gatherFrom_67 : decode prog_11_method_5_code 67 = .ok (.aload_n 0, 1) := by decide +kernel
theorem d_Tx_gatherFrom_68 : decode prog_11_method_5_code 68 = .ok (.getfield 34, 3) := by decide +kernel
theorem d_Tx_gatherFrom_71 : decode prog_11_method_5_code 71 = .ok (.aload_n 0, 1) := by decide +kernel
theorem d_Tx_gatherFrom_72 : decode prog_11_method_5_code 72 = .ok (.getfield 34, 3) := by decide +kernel
theorem d_Tx_gatherFrom_75 : decode prog_11_method_5_code 75 = .ok (.iload_n 2, 1) := by decide +kernel
theorem d_Tx_gatherFrom_76 : decode prog_11_method_5_code 76 = .ok (.invokevirtual 121, 3) := by decide +kernel
theorem d_Tx_gatherFrom_79 : decode prog_11_method_5_code 79 = .ok (.invokevirtual 124, 3) := by decide +kernel
theorem d_Tx_gatherFrom_82 : decode prog_11_method_5_code 82 = .ok (.iadd, 1) := by decide +kernel
theorem d_Tx_gatherFrom_83 : decode prog_11_method_5_code 83 = .ok (.istore 4, 2) := by decide +kernel
theorem d_Tx_gatherFrom_85 : decode prog_11_method_5_code 85 = .ok (.iload_n 3, 1) := by decide +kernel
theorem d_Tx_gatherFrom_86 : decode prog_11_method_5_code 86 = .ok (.istore 5, 2) := by decide +kernel
theorem d_Tx_gatherFrom_88 : decode prog_11_method_5_code 88 = .ok (.iload 5, 2) := by decide +kernel
theorem d_Tx_gatherFrom_90 : decode prog_11_method_5_code 90 = .ok (.iload 4, 2) := by decide +kernel
theorem d_Tx_gatherFrom_92 : decode prog_11_method_5_code 92 = .ok (.if_icmp .ge 51, 3) := by decide +kernel
theorem d_Tx_gatherFrom_95 : decode prog_11_method_5_code 95 = .ok (.aload_n 0, 1) := by decide +kernel
theorem d_Tx_gatherFrom_96 : decode prog_11_method_5_code 96 = .ok (.getfield 97, 3) := by decide +kernel
theorem d_Tx_gatherFrom_99 : decode prog_11_method_5_code 99 = .ok (.sipush 400, 3) := by decide +kernel
theorem d_Tx_gatherFrom_102 : decode prog_11_method_5_code 102 = .ok (.if_icmp .ge 41, 3) := by decide +kernel
theorem d_Tx_gatherFrom_105 : decode prog_11_method_5_code 105 = .ok (.aload_n 0, 1) := by decide +kernel
theorem d_Tx_gatherFrom_106 : decode prog_11_method_5_code 106 = .ok (.getfield 15, 3) := by decide +kernel
theorem d_Tx_gatherFrom_109 : decode prog_11_method_5_code 109 = .ok (.aload_n 0, 1) := by decide +kernel
theorem d_Tx_gatherFrom_110 : decode prog_11_method_5_code 110 = .ok (.getfield 97, 3) := by decide +kernel
theorem d_Tx_gatherFrom_113 : decode prog_11_method_5_code 113 = .ok (.iload 5, 2) := by decide +kernel
theorem d_Tx_gatherFrom_115 : decode prog_11_method_5_code 115 = .ok (.iastore, 1) := by decide +kernel
theorem d_Tx_gatherFrom_116 : decode prog_11_method_5_code 116 = .ok (.aload_n 0, 1) := by decide +kernel
theorem d_Tx_gatherFrom_117 : decode prog_11_method_5_code 117 = .ok (.getfield 18, 3) := by decide +kernel
theorem d_Tx_gatherFrom_120 : decode prog_11_method_5_code 120 = .ok (.iload 5, 2) := by decide +kernel
theorem d_Tx_gatherFrom_122 : decode prog_11_method_5_code 122 = .ok (.aload_n 0, 1) := by decide +kernel
theorem d_Tx_gatherFrom_123 : decode prog_11_method_5_code 123 = .ok (.getfield 97, 3) := by decide +kernel
theorem d_Tx_gatherFrom_126 : decode prog_11_method_5_code 126 = .ok (.iastore, 1) := by decide +kernel
theorem d_Tx_gatherFrom_127 : decode prog_11_method_5_code 127 = .ok (.aload_n 0, 1) := by decide +kernel
theorem d_Tx_gatherFrom_128 : decode prog_11_method_5_code 128 = .ok (.dup, 1) := by decide +kernel
theorem d_Tx_gatherFrom_129 : decode prog_11_method_5_code 129 = .ok (.getfield 97, 3) := by decide +kernel
theorem d_Tx_gatherFrom_132 : decode prog_11_method_5_code 132 = .ok (.iconst 1, 1) := by decide +kernel
theorem d_Tx_gatherFrom_133 : decode prog_11_method_5_code 133 = .ok (.iadd, 1) := by decide +kernel
theorem d_Tx_gatherFrom_134 : decode prog_11_method_5_code 134 = .ok (.putfield 97, 3) := by decide +kernel
theorem d_Tx_gatherFrom_137 : decode prog_11_method_5_code 137 = .ok (.iinc 5 1, 3) := by decide +kernel
theorem d_Tx_gatherFrom_140 : decode prog_11_method_5_code 140 = .ok (.goto (-52), 3) := by decide +kernel
theorem d_Tx_gatherFrom_143 : decode prog_11_method_5_code 143 = .ok (.iinc 2 1, 3) := by decide +kernel
theorem d_Tx_gatherFrom_146 : decode prog_11_method_5_code 146 = .ok (.goto (-136), 3) := by decide +kernel
theorem d_Tx_gatherFrom_149 : decode prog_11_method_5_code 149 = .ok (.return_, 1) := by decide +kernel
def y_Tx_gatherLines : MethodName := ⟨"PatchStore$Text", "gatherLines", "()V"⟩
abbrev c_Tx_gatherLines : Cond := (Jvm.Cond.code ({ cls := "PatchStore$Text", name := "gatherLines", desc := "()V" } : Jvm.MethodName) prog_11_method_4_code (3 : Nat) (Option.none : Option Jvm.ClassFile.FieldType))
abbrev ws_Tx_gatherLines : List Cond := c_Tx_gatherLines :: xg_1
theorem d_Tx_gatherLines_0 : decode prog_11_method_4_code 0 = .ok (.aload_n 0, 1) := by decide +kernel
theorem d_Tx_gatherLines_1 : decode prog_11_method_4_code 1 = .ok (.iconst 0, 1) := by decide +kernel
theorem d_Tx_gatherLines_2 : decode prog_11_method_4_code 2 = .ok (.putfield 97, 3) := by decide +kernel
theorem d_Tx_gatherLines_5 : decode prog_11_method_4_code 5 = .ok (.iconst 0, 1) := by decide +kernel
theorem d_Tx_gatherLines_6 : decode prog_11_method_4_code 6 = .ok (.istore_n 1, 1) := by decide +kernel
theorem d_Tx_gatherLines_7 : decode prog_11_method_4_code 7 = .ok (.iload_n 1, 1) := by decide +kernel
theorem d_Tx_gatherLines_8 : decode prog_11_method_4_code 8 = .ok (.aload_n 0, 1) := by decide +kernel
theorem d_Tx_gatherLines_9 : decode prog_11_method_4_code 9 = .ok (.getfield 34, 3) := by decide +kernel
theorem d_Tx_gatherLines_12 : decode prog_11_method_4_code 12 = .ok (.getfield 73, 3) := by decide +kernel
theorem d_Tx_gatherLines_15 : decode prog_11_method_4_code 15 = .ok (.if_icmp .ge 35, 3) := by decide +kernel
theorem d_Tx_gatherLines_18 : decode prog_11_method_4_code 18 = .ok (.aload_n 0, 1) := by decide +kernel
theorem d_Tx_gatherLines_19 : decode prog_11_method_4_code 19 = .ok (.getfield 34, 3) := by decide +kernel
theorem d_Tx_gatherLines_22 : decode prog_11_method_4_code 22 = .ok (.getfield 100, 3) := by decide +kernel
theorem d_Tx_gatherLines_25 : decode prog_11_method_4_code 25 = .ok (.iload_n 1, 1) := by decide +kernel
theorem d_Tx_gatherLines_26 : decode prog_11_method_4_code 26 = .ok (.iaload, 1) := by decide +kernel
theorem d_Tx_gatherLines_27 : decode prog_11_method_4_code 27 = .ok (.istore_n 2, 1) := by decide +kernel
theorem d_Tx_gatherLines_28 : decode prog_11_method_4_code 28 = .ok (.aload_n 0, 1) := by decide +kernel
theorem d_Tx_gatherLines_29 : decode prog_11_method_4_code 29 = .ok (.getfield 50, 3) := by decide +kernel
theorem d_Tx_gatherLines_32 : decode prog_11_method_4_code 32 = .ok (.iload_n 2, 1) := by decide +kernel
theorem d_Tx_gatherLines_33 : decode prog_11_method_4_code 33 = .ok (.invokevirtual 76, 3) := by decide +kernel
theorem d_Tx_gatherLines_36 : decode prog_11_method_4_code 36 = .ok (.ifCond .eq 8, 3) := by decide +kernel
theorem d_Tx_gatherLines_39 : decode prog_11_method_4_code 39 = .ok (.aload_n 0, 1) := by decide +kernel
theorem d_Tx_gatherLines_40 : decode prog_11_method_4_code 40 = .ok (.iload_n 2, 1) := by decide +kernel
theorem d_Tx_gatherLines_41 : decode prog_11_method_4_code 41 = .ok (.invokevirtual 103, 3) := by decide +kernel
theorem d_Tx_gatherLines_44 : decode prog_11_method_4_code 44 = .ok (.iinc 1 1, 3) := by decide +kernel
theorem d_Tx_gatherLines_47 : decode prog_11_method_4_code 47 = .ok (.goto (-40), 3) := by decide +kernel
theorem d_Tx_gatherLines_50 : decode prog_11_method_4_code 50 = .ok (.return_, 1) := by decide +kernel
/-- how many lines the insert c has -/
def nLn (S : Stk) (c : Nat) : Nat := tw S.f (lnAt S.f (S.CA c))
/-- the change is an insert into file y -/
def inB (S : Stk) (y c : Nat) : Bool := S.f (S.CA c) == 2 && S.CF c == y
theorem inB_iff {S : Stk} {y c : Nat} : inB S y c = true ↔ S.f (S.CA c) = 2 ∧ S.CF c = y := by
  unfold inB
  simp
/-- the lines of file y that the change c inserts -/
def lcC (S : Stk) (y c : Nat) : List Nat := if inB S y c = true then seqL (S.CL c) (nLn S c) else []
/-- the lines of file y that the first j changes of patch p insert -/
def lnQ (S : Stk) (y p : Nat) : Nat → List Nat
  | 0 => []
  | j + 1 => lnQ S y p j ++ lcC S y (S.FC p + j)
/-- the lines of file y in the set, by hash: those of the first i patches -/
def lnU (S : Stk) (mw : Nat → Int64) (y : Nat) : Nat → List Nat
  | 0 => []
  | i + 1 => lnU S mw y i ++ (if bt mw (S.BH i) = true then lnQ S y (S.BH i) (S.nT (S.BH i)) else [])
/-- the lines of the graph -/
def rowL (S : Stk) (mw : Nat → Int64) (y : Nat) : List Nat := lnU S mw y S.P
/-- the slots hold the places in the list -/
def slR (sl : Nat → Int32) (L : List Nat) : Prop := ∀ i, i < L.length → sl (L.getD i 0) = nI i
theorem slR.push {sl : Nat → Int32} {L : List Nat} {x : Nat} (h : slR sl L) (hx : ¬ x ∈ L) : slR (upd sl x (nI L.length)) (L ++ [x]) := by
  intro i hi
  rw [List.length_append] at hi
  have hi : i < L.length + 1 := hi
  by_cases e : i = L.length
  · subst e
    rw [List.getD_eq_getElem?_getD, List.getElem?_append_right (Nat.le_refl _), Nat.sub_self]
    show upd sl x (nI L.length) x = _
    rw [upd_eq]
  · have e1 : (L ++ [x]).getD i 0 = L.getD i 0 := by rw [List.getD_eq_getElem?_getD, List.getD_eq_getElem?_getD, List.getElem?_append_left (by omega)]
    rw [e1]
    have hm : L.getD i 0 ∈ L := getD_mem (by omega)
    rw [upd_ne _ (fun z => hx (by rw [← z]; exact hm))]
    exact h i (by omega)
theorem sInv.cle {S : Stk} (I : sInv S) {p j : Nat} (hp : p < S.P) (hj : j < S.nT p) (h2 : S.f (S.CA (S.FC p + j)) = 2) : S.CL (S.FC p + j) + nLn S (S.FC p + j) = NLs S.f S.CA (S.FC p) (S.NLp p) (j + 1) := by
  rw [NLs_eq h2, (I.pi p hp).cl j hj]
  rfl
/-- lines of different inserts are different -/
theorem sInv.cllt {S : Stk} (I : sInv S) {c d : Nat} (hcd : c < d) (hd : d < S.FC S.P) (h2 : S.f (S.CA c) = 2) : S.CL c + nLn S c ≤ S.CL d := by
  obtain ⟨p, j, h1, h3, rfl⟩ := I.own (Nat.le_refl _) (Nat.lt_trans hcd hd)
  obtain ⟨q, k, h4, h5, rfl⟩ := I.own (Nat.le_refl _) hd
  rw [I.cle h1 h3 h2, (I.pi q h4).cl k h5]
  rcases Nat.lt_trichotomy p q with z | z | z
  · have e1 := NLs_mono S.f S.CA (S.FC p) (S.NLp p) (i := j + 1) (j := S.nT p) (by omega)
    rw [← (I.pi p h1).nl] at e1
    have e2 := I.nlm (i := p + 1) (k := q) (by omega) (by omega)
    have e3 : S.NLp q ≤ NLs S.f S.CA (S.FC q) (S.NLp q) k := NLs_mono S.f S.CA (S.FC q) (S.NLp q) (i := 0) (Nat.zero_le _)
    omega
  · subst z
    exact NLs_mono S.f S.CA (S.FC p) (S.NLp p) (by omega)
  · have := I.fcm (i := q + 1) (k := p) (by omega) (by omega)
    have := (I.pi q h4).fc
    omega
theorem sInv.cldj {S : Stk} (I : sInv S) {c d x : Nat} (hc : c < S.FC S.P) (hd : d < S.FC S.P) (h2 : S.f (S.CA c) = 2) (h3 : S.f (S.CA d) = 2) (hx : S.CL c ≤ x ∧ x < S.CL c + nLn S c) (hy : S.CL d ≤ x ∧ x < S.CL d + nLn S d) : c = d := by
  rcases Nat.lt_trichotomy c d with z | z | z
  · have := I.cllt z hd h2; omega
  · exact z
  · have := I.cllt z hc h3; omega
theorem lcC_mem {S : Stk} {y c x : Nat} : x ∈ lcC S y c ↔ S.f (S.CA c) = 2 ∧ S.CF c = y ∧ S.CL c ≤ x ∧ x < S.CL c + nLn S c := by
  unfold lcC
  by_cases e : inB S y c = true
  · rw [if_pos e, seqL_mem]
    have := inB_iff.mp e
    exact ⟨fun z => ⟨this.1, this.2, z⟩, fun z => z.2.2⟩
  · rw [if_neg e]
    exact ⟨fun z => (by cases z), fun z => absurd (inB_iff.mpr ⟨z.1, z.2.1⟩) e⟩
theorem lnQ_mem {S : Stk} {y p x : Nat} : ∀ {j}, x ∈ lnQ S y p j ↔ ∃ k, k < j ∧ x ∈ lcC S y (S.FC p + k)
  | 0 => ⟨fun z => (by cases z), fun ⟨k, z, _⟩ => absurd z (Nat.not_lt_zero _)⟩
  | j + 1 => by
    show x ∈ lnQ S y p j ++ _ ↔ _
    rw [List.mem_append, lnQ_mem (j := j)]
    constructor
    · rintro (⟨k, h1, h2⟩ | h)
      · exact ⟨k, by omega, h2⟩
      · exact ⟨j, by omega, h⟩
    · rintro ⟨k, h1, h2⟩
      by_cases e : k = j
      · subst e; exact Or.inr h2
      · exact Or.inl ⟨k, by omega, h2⟩
theorem lnU_mem {S : Stk} {mw : Nat → Int64} {y x : Nat} : ∀ {i}, x ∈ lnU S mw y i ↔ ∃ k j, k < i ∧ bt mw (S.BH k) = true ∧ j < S.nT (S.BH k) ∧ x ∈ lcC S y (S.FC (S.BH k) + j)
  | 0 => ⟨fun z => (by cases z), fun ⟨k, _, z, _⟩ => absurd z (Nat.not_lt_zero _)⟩
  | i + 1 => by
    show x ∈ lnU S mw y i ++ _ ↔ _
    rw [List.mem_append, lnU_mem (i := i)]
    constructor
    · rintro (⟨k, j, h1, h2⟩ | h)
      · exact ⟨k, j, by omega, h2⟩
      · by_cases e : bt mw (S.BH i) = true
        · rw [if_pos e] at h
          obtain ⟨j, h1, h2⟩ := lnQ_mem.mp h
          exact ⟨i, j, by omega, e, h1, h2⟩
        · rw [if_neg e] at h; cases h
    · rintro ⟨k, j, h1, h2, h3, h4⟩
      by_cases e : k = i
      · subst e
        rw [if_pos h2]
        exact Or.inr (lnQ_mem.mpr ⟨j, h3, h4⟩)
      · exact Or.inl ⟨k, j, by omega, h2, h3, h4⟩
theorem sInv.own1 {S : Stk} (I : sInv S) {p q j k : Nat} (hp : p < S.P) (hq : q < S.P) (hj : j < S.nT p) (hk : k < S.nT q) (e : S.FC p + j = S.FC q + k) : p = q ∧ j = k := by
  have e1 := (I.pi p hp).fc
  have e2 := (I.pi q hq).fc
  rcases Nat.lt_trichotomy p q with z | z | z
  · have := I.fcm (i := p + 1) (k := q) (by omega) (by omega); omega
  · subst z; exact ⟨rfl, by omega⟩
  · have := I.fcm (i := q + 1) (k := p) (by omega) (by omega); omega
/-- a line comes newly -/
theorem sInv.lnew {S : Stk} (I : sInv S) {mw : Nat → Int64} {y i j q : Nat} (hi : i < S.P) (hj : j < S.nT (S.BH i)) (h2 : S.f (S.CA (S.FC (S.BH i) + j)) = 2) (hq : q < nLn S (S.FC (S.BH i) + j)) : ¬ S.CL (S.FC (S.BH i) + j) + q ∈ lnU S mw y i ++ lnQ S y (S.BH i) j ++ seqL (S.CL (S.FC (S.BH i) + j)) q := by
  intro h
  have hb := I.bh i hi
  have hc := (I.bounds hb).1
  rcases List.mem_append.mp h with h | h
  · rcases List.mem_append.mp h with h | h
    · obtain ⟨k, r, z1, z2, z3, z4⟩ := lnU_mem.mp h
      obtain ⟨w1, w2, w3⟩ := lcC_mem.mp z4
      have hbk := I.bh k (by omega)
      have hck := (I.bounds hbk).1
      have e := I.cldj (by omega) (by omega) h2 w1 ⟨by omega, by omega⟩ w3
      exact I.inj k i z1 hi (I.own1 hb hbk hj z3 e).1.symm
    · obtain ⟨k, z1, z2⟩ := lnQ_mem.mp h
      obtain ⟨w1, w2, w3⟩ := lcC_mem.mp z2
      have e := I.cldj (by omega) (by omega) h2 w1 ⟨by omega, by omega⟩ w3
      omega
  · have := (seqL_mem.mp h).2; omega
theorem lnQ_len {S : Stk} {y p : Nat} {g : Nat → Nat} : ∀ j, (lnQ S y p j).length + g y = lcs S.f S.CA S.CF (S.FC p) j g y
  | 0 => Nat.zero_add _
  | j + 1 => by
    have ih := lnQ_len (S := S) (y := y) (p := p) (g := g) j
    show (lnQ S y p j ++ lcC S y (S.FC p + j)).length + g y = _
    rw [List.length_append]
    unfold lcC
    by_cases e : S.f (S.CA (S.FC p + j)) = 2
    · rw [lcs_eq e]
      by_cases z : S.CF (S.FC p + j) = y
      · rw [if_pos (inB_iff.mpr ⟨e, z⟩), seqL_len, z, upN_eq, ← ih]
        unfold nLn; omega
      · rw [if_neg (fun w => z (inB_iff.mp w).2), upN_ne _ (fun w => z w.symm), ← ih]
        rfl
    · rw [lcs_ne e, if_neg (fun w => e (inB_iff.mp w).1), ← ih]
      rfl
theorem sInv.lnsum {S : Stk} (I : sInv S) (y : Nat) : ∀ n, n ≤ S.P → sumN (fun p => (lnQ S y p (S.nT p)).length) n = S.LOp n y
  | 0, _ => (I.lo0 y).symm
  | n + 1, h => by
    have ih := I.lnsum y n (by omega)
    have e := (I.pi n (by omega)).lo
    have e2 := lnQ_len (S := S) (y := y) (p := n) (g := S.LOp n) (S.nT n)
    show sumN _ n + (lnQ S y n (S.nT n)).length = _
    rw [ih, e, ← e2]
    omega
theorem lnU_len {S : Stk} {mw : Nat → Int64} {y : Nat} : ∀ i, (lnU S mw y i).length ≤ sumN (fun k => (lnQ S y (S.BH k) (S.nT (S.BH k))).length) i
  | 0 => Nat.le_refl _
  | i + 1 => by
    have ih := lnU_len (S := S) (mw := mw) (y := y) i
    show (lnU S mw y i ++ _).length ≤ sumN _ i + (lnQ S y (S.BH i) (S.nT (S.BH i))).length
    rw [List.length_append]
    by_cases e : bt mw (S.BH i) = true
    · rw [if_pos e]; omega
    · rw [if_neg e]
      show _ + 0 ≤ _
      omega
theorem lnQ_mono {S : Stk} {y p : Nat} {m : Nat} : ∀ {n}, m ≤ n → (lnQ S y p m).length ≤ (lnQ S y p n).length
  | 0, h => by rw [show m = 0 by omega]; exact Nat.le_refl _
  | n + 1, h => by
    by_cases e : m = n + 1
    · rw [e]; exact Nat.le_refl _
    · have := lnQ_mono (S := S) (y := y) (p := p) (m := m) (n := n) (by omega)
      show _ ≤ (lnQ S y p n ++ _).length
      rw [List.length_append]; omega
/-- a graph has room -/
theorem sInv.lfit {S : Stk} (I : sInv S) (mw : Nat → Int64) (y : Nat) {i : Nat} (hi : i < S.P) : (lnU S mw y i).length + (lnQ S y (S.BH i) (S.nT (S.BH i))).length ≤ 400 := by
  have h1 := lnU_len (S := S) (mw := mw) (y := y) i
  have h3 := sumN_inj (w := fun p => (lnQ S y p (S.nT p)).length) (B := S.BH) (P := S.P) (i + 1) (fun k z => I.bh k (by omega)) (fun a k z1 z2 => I.inj a k z1 (by omega))
  have h4 : sumN (fun k => (lnQ S y (S.BH k) (S.nT (S.BH k))).length) i + (lnQ S y (S.BH i) (S.nT (S.BH i))).length ≤ sumN (fun p => (lnQ S y p (S.nT p)).length) S.P := h3
  have h5 := I.lnsum y S.P (Nat.le_refl _)
  have h6 := I.loP y
  omega
theorem lnU_yes {S : Stk} {mw : Nat → Int64} {y i : Nat} (h : bt mw (S.BH i) = true) : lnU S mw y i ++ lnQ S y (S.BH i) (S.nT (S.BH i)) = lnU S mw y (i + 1) := by
  show _ = lnU S mw y i ++ (if bt mw (S.BH i) = true then lnQ S y (S.BH i) (S.nT (S.BH i)) else [])
  rw [if_pos h]
theorem lnU_no {S : Stk} {mw : Nat → Int64} {y i : Nat} (h : ¬ bt mw (S.BH i) = true) : lnU S mw y i = lnU S mw y (i + 1) := by
  show _ = lnU S mw y i ++ (if bt mw (S.BH i) = true then lnQ S y (S.BH i) (S.nT (S.BH i)) else [])
  rw [if_neg h, List.append_nil]
theorem lnQ_no {S : Stk} {y p j : Nat} (h : ¬ (S.f (S.CA (S.FC p + j)) = 2 ∧ S.CF (S.FC p + j) = y)) : lnQ S y p (j + 1) = lnQ S y p j := by
  show lnQ S y p j ++ lcC S y (S.FC p + j) = _
  unfold lcC
  rw [if_neg (fun z => h (inB_iff.mp z)), List.append_nil]
theorem lnQ_yes {S : Stk} {y p j : Nat} (h : S.f (S.CA (S.FC p + j)) = 2 ∧ S.CF (S.FC p + j) = y) : lnQ S y p (j + 1) = lnQ S y p j ++ seqL (S.CL (S.FC p + j)) (nLn S (S.FC p + j)) := by
  show lnQ S y p j ++ lcC S y (S.FC p + j) = _
  unfold lcC
  rw [if_pos (inB_iff.mpr h)]
def rlN (S : Stk) (y : Nat) (R : List Nat) (p j : Nat) : Nat := (R ++ lnQ S y p j).length
def lnUN (S : Stk) (mw : Nat → Int64) (y i : Nat) : Nat := (lnU S mw y i).length
set_option maxHeartbeats 4000000 in
set_option maxRecDepth 100000 in
/-- the lines of a patch are gathered -/
theorem m_Tx_gatherFrom (l : Launch) (dC : Nat → ClassId) (dI : Nat → Nat → Nat) (cI cB cL cZ cR : ClassId) (h sk b_y fcA ch cat cfA flA trA tsA : Nat) (tx_order tx_length tx_size tx_unsure tx_stranded tx_dead tx_lines tx_loaded tx_version tx_reach tx_deleters tx_gone tx_waits sk_from sk_firstDependency sk_dependencies sk_hashes sk_byHash sk_leansOn sk_leantBy sk_lines sk_patches ch_patch ch_adds ch_files : Value) (Z : StkA) (S : Stk) (mw : Nat → Int64) (rw9 sl : Nat → Int32) (yf ii : Nat) (sz : Nat) (I : sInv S) (R : rep S Z) (hii : ii < S.P) (hyf : yf < 40000) (hA1 : arrL rw9 (lnU S mw yf ii)) (hA2 : slR sl (lnU S mw yf ii)) : Met l y_Tx_gatherFrom ws_Tx_gatherFrom ({ frames := 2, cells := 0, slots := 0, locals := 120 }) (xw_Pc dC dI [(cI, .int), (cB, .byte), (cL, .long), (cZ, .boolean), (cR, .object "PatchStore$Repository")] [.ref h, .int (nI (S.BH ii))] [(h, .inr (10, [tx_order, tx_length, tx_size, tx_unsure, tx_stranded, tx_dead, .ref sk, .ref ch, tx_lines, tx_loaded, tx_version, .int (nI yf), .ref trA, .ref tsA, .int (nI (lnUN S mw yf ii)), tx_reach, tx_deleters, tx_gone, tx_waits])), (sk, .inr (9, [.ref b_y, sk_from, sk_firstDependency, .ref fcA, sk_dependencies, sk_hashes, sk_byHash, sk_leansOn, sk_leantBy, .ref ch, sk_lines, sk_patches])), (b_y, .inl (cB, 290000, .inl S.f)), (fcA, .inl (cI, 502, .inl Z.fc)), (ch, .inr (1, [.ref cat, ch_patch, .ref cfA, .ref flA, ch_adds, ch_files])), (cat, .inl (cI, 38000, .inl Z.ca)), (cfA, .inl (cI, 38000, .inl Z.cf)), (flA, .inl (cI, 38000, .inl Z.fl)), (trA, .inl (cI, 400, .inl rw9)), (tsA, .inl (cI, 4000, .inl sl))] sz) (va_Qv (fun u : (Nat → Int32) × (Nat → Int32) => arrL u.1 (lnU S mw yf ii ++ lnQ S yf (S.BH ii) (S.nT (S.BH ii))) ∧ slR u.2 (lnU S mw yf ii ++ lnQ S yf (S.BH ii) (S.nT (S.BH ii)))) (fun u t => xw_B dC dI [(cI, .int), (cB, .byte), (cL, .long), (cZ, .boolean), (cR, .object "PatchStore$Repository")] (va_A [(h, .inr (10, [tx_order, tx_length, tx_size, tx_unsure, tx_stranded, tx_dead, .ref sk, .ref ch, tx_lines, tx_loaded, tx_version, .int (nI yf), .ref trA, .ref tsA, .int (nI (lnUN S mw yf ii)), tx_reach, tx_deleters, tx_gone, tx_waits])), (sk, .inr (9, [.ref b_y, sk_from, sk_firstDependency, .ref fcA, sk_dependencies, sk_hashes, sk_byHash, sk_leansOn, sk_leantBy, .ref ch, sk_lines, sk_patches])), (b_y, .inl (cB, 290000, .inl S.f)), (fcA, .inl (cI, 502, .inl Z.fc)), (ch, .inr (1, [.ref cat, ch_patch, .ref cfA, .ref flA, ch_adds, ch_files])), (cat, .inl (cI, 38000, .inl Z.ca)), (cfA, .inl (cI, 38000, .inl Z.cf)), (flA, .inl (cI, 38000, .inl Z.fl)), (trA, .inl (cI, 400, .inl rw9)), (tsA, .inl (cI, 4000, .inl sl))] sz) [(h, .inr (10, [tx_order, tx_length, tx_size, tx_unsure, tx_stranded, tx_dead, .ref sk, .ref ch, tx_lines, tx_loaded, tx_version, .int (nI yf), .ref trA, .ref tsA, .int (nI (rlN S yf (lnU S mw yf ii) (S.BH ii) (S.nT (S.BH ii)))), tx_reach, tx_deleters, tx_gone, tx_waits])), (sk, .inr (9, [.ref b_y, sk_from, sk_firstDependency, .ref fcA, sk_dependencies, sk_hashes, sk_byHash, sk_leansOn, sk_leantBy, .ref ch, sk_lines, sk_patches])), (b_y, .inl (cB, 290000, .inl S.f)), (fcA, .inl (cI, 502, .inl Z.fc)), (ch, .inr (1, [.ref cat, ch_patch, .ref cfA, .ref flA, ch_adds, ch_files])), (cat, .inl (cI, 38000, .inl Z.ca)), (cfA, .inl (cI, 38000, .inl Z.cf)), (flA, .inl (cI, 38000, .inl Z.fl)), (trA, .inl (cI, 400, .inl u.1)), (tsA, .inl (cI, 4000, .inl u.2))] t) (va_A [(h, .inr (10, [tx_order, tx_length, tx_size, tx_unsure, tx_stranded, tx_dead, .ref sk, .ref ch, tx_lines, tx_loaded, tx_version, .int (nI yf), .ref trA, .ref tsA, .int (nI (lnUN S mw yf ii)), tx_reach, tx_deleters, tx_gone, tx_waits])), (sk, .inr (9, [.ref b_y, sk_from, sk_firstDependency, .ref fcA, sk_dependencies, sk_hashes, sk_byHash, sk_leansOn, sk_leantBy, .ref ch, sk_lines, sk_patches])), (b_y, .inl (cB, 290000, .inl S.f)), (fcA, .inl (cI, 502, .inl Z.fc)), (ch, .inr (1, [.ref cat, ch_patch, .ref cfA, .ref flA, ch_adds, ch_files])), (cat, .inl (cI, 38000, .inl Z.ca)), (cfA, .inl (cI, 38000, .inl Z.cf)), (flA, .inl (cI, 38000, .inl Z.fl)), (trA, .inl (cI, 400, .inl rw9)), (tsA, .inl (cI, 4000, .inl sl))] sz)) 0 0 (va_A [(h, .inr (10, [tx_order, tx_length, tx_size, tx_unsure, tx_stranded, tx_dead, .ref sk, .ref ch, tx_lines, tx_loaded, tx_version, .int (nI yf), .ref trA, .ref tsA, .int (nI (lnUN S mw yf ii)), tx_reach, tx_deleters, tx_gone, tx_waits])), (sk, .inr (9, [.ref b_y, sk_from, sk_firstDependency, .ref fcA, sk_dependencies, sk_hashes, sk_byHash, sk_leansOn, sk_leantBy, .ref ch, sk_lines, sk_patches])), (b_y, .inl (cB, 290000, .inl S.f)), (fcA, .inl (cI, 502, .inl Z.fc)), (ch, .inr (1, [.ref cat, ch_patch, .ref cfA, .ref flA, ch_adds, ch_files])), (cat, .inl (cI, 38000, .inl Z.ca)), (cfA, .inl (cI, 38000, .inl Z.cf)), (flA, .inl (cI, 38000, .inl Z.fl)), (trA, .inl (cI, 400, .inl rw9)), (tsA, .inl (cI, 4000, .inl sl))] sz) := by
  refine Met.ofW (cc := prog_11_method_5_code) (maxL := 6) (ret := none) (by decide) rfl ?_
  intro p e s m args below meth c s₁ B hml hv
  obtain ⟨rfl, hsz, hP, hK, hD0⟩ := hv
  have hx := B.exec
  have hb := B.bytes
  have hr := B.returns
  have hts0 := atoms_spec (ws := ws_Tx_gatherFrom) B.pre
  have hts : ∀ w ∈ xg_1, w.before _ s = true := fun w h => hts0 w (List.mem_cons_of_mem _ h)
  have hown : s.vm.findClass "PatchStore$Text" = some m.cls := findClass_of_methodNamed B.named
  have hlocks := B.notSynchronized
  subst hsz
  have hD := hD0.self (sz := s.heap.size)
  generalize hAe : va_A [(h, .inr (10, [tx_order, tx_length, tx_size, tx_unsure, tx_stranded, tx_dead, .ref sk, .ref ch, tx_lines, tx_loaded, tx_version, .int (nI yf), .ref trA, .ref tsA, .int (nI (lnUN S mw yf ii)), tx_reach, tx_deleters, tx_gone, tx_waits])), (sk, .inr (9, [.ref b_y, sk_from, sk_firstDependency, .ref fcA, sk_dependencies, sk_hashes, sk_byHash, sk_leansOn, sk_leantBy, .ref ch, sk_lines, sk_patches])), (b_y, .inl (cB, 290000, .inl S.f)), (fcA, .inl (cI, 502, .inl Z.fc)), (ch, .inr (1, [.ref cat, ch_patch, .ref cfA, .ref flA, ch_adds, ch_files])), (cat, .inl (cI, 38000, .inl Z.ca)), (cfA, .inl (cI, 38000, .inl Z.cf)), (flA, .inl (cI, 38000, .inl Z.fl)), (trA, .inl (cI, 400, .inl rw9)), (tsA, .inl (cI, 4000, .inl sl))] s.heap.size = A at hD ⊢
  have hA : ∀ q : Nat, s.heap.size ≤ q → A q := fun q h => by rw [← hAe]; exact Or.inr h
  have hS : va_S A s.heap s.heap [] := va_S.rf
  have hl := lv_entry ([.ref h, .int (nI (S.BH ii))]) (n := 6) (Nat.le_of_ble_eq_true rfl)
  rw [lg_entry_eq]
  generalize (lg_sl ([.ref h, .int (nI (S.BH ii))]) ++ List.replicate (6 - (lg_sl ([.ref h, .int (nI (S.BH ii))])).length) Slot.unset).toArray = ls at hl ⊢
  have hl : lv_has ls 6 [(0, .ref h), (1, .int (nI (S.BH ii)))] := hl
  generalize hQe : MQ _ _ _ _ _ _ _ = Q
  have hpb := I.bh ii hii
  obtain ⟨hb1, hb2, hb3, hb4, hb5⟩ := I.bounds hpb
  have hb6 := I.hP
  have hpi := I.pi _ hpb
  have hnf := I.nfP
  have hfit := I.lfit mw yf hii
  refine lv_aload_n hx hb d_Tx_gatherFrom_0 rfl (lv_at hl 0 rfl) ?_
  refine va_get (D := (dC, dI)) (ci := 10) (v := .ref sk) (C := R_Tx) (T := F_Tx) (N := 19) hx hb hts i_Tx hown hK hP 0 rfl rfl 6 (by decide) (hts _ gw_388) (fun _ h9 => h9) rfl d_Tx_gatherFrom_1 ?_
  refine va_get (D := (dC, dI)) (ci := 9) (v := .ref fcA) (C := R_St) (T := F_St) (N := 12) hx hb hts i_St hown hK hP 1 rfl rfl 3 (by decide) (hts _ gw_199) (fun _ h9 => h9) rfl d_Tx_gatherFrom_4 ?_
  refine lv_iload_n hx hb d_Tx_gatherFrom_7 rfl (lv_at hl 1 rfl) ?_
  refine va_iald hx hb hK hP 3 0 rfl rfl (vp_in_nI (by omega) (by omega)) d_Tx_gatherFrom_8 ?_
  rw [show (nI (S.BH ii)).toNatClampNeg = (S.BH ii) from nI_clamp (by omega)]
  refine lv_topi (fun x_1 ex_1 => ?_)
  obtain rfl : x_1 = nI (S.FC (S.BH ii)) := by rw [ex_1]; first | done | (exact R.fc _ (by omega))
  refine lv_istore_n (lv' := [(2, .int (nI (S.FC (S.BH ii)))), (0, .ref h), (1, .int (nI (S.BH ii)))]) hx hb d_Tx_gatherFrom_9 rfl hl (by decide) rfl (fun ls hl => ?_)
  rw [show nI (lnUN S mw yf ii) = nI (rlN S yf (lnU S mw yf ii) (S.BH ii) 0) from congrArg nI (by unfold rlN lnUN; rw [show lnQ S yf (S.BH ii) 0 = [] from rfl, List.append_nil])] at hP hD
  have loop_10 : ∀ (n9 : Nat) (j : Nat) (rwu : Nat → Int32) (slu : Nat → Int32) (H : Heap) (locs : List Loc) (ls : Array Slot), S.nT (S.BH ii) - j < n9 → (j ≤ S.nT (S.BH ii)) → (arrL rwu (lnU S mw yf ii ++ lnQ S yf (S.BH ii) j)) → (slR slu (lnU S mw yf ii ++ lnQ S yf (S.BH ii) j)) → va_P (dC, dI) classes [(h, .inr (10, [tx_order, tx_length, tx_size, tx_unsure, tx_stranded, tx_dead, .ref sk, .ref ch, tx_lines, tx_loaded, tx_version, .int (nI yf), .ref trA, .ref tsA, .int (nI (rlN S yf (lnU S mw yf ii) (S.BH ii) j)), tx_reach, tx_deleters, tx_gone, tx_waits])), (sk, .inr (9, [.ref b_y, sk_from, sk_firstDependency, .ref fcA, sk_dependencies, sk_hashes, sk_byHash, sk_leansOn, sk_leantBy, .ref ch, sk_lines, sk_patches])), (b_y, .inl (cB, 290000, .inl S.f)), (fcA, .inl (cI, 502, .inl Z.fc)), (ch, .inr (1, [.ref cat, ch_patch, .ref cfA, .ref flA, ch_adds, ch_files])), (cat, .inl (cI, 38000, .inl Z.ca)), (cfA, .inl (cI, 38000, .inl Z.cf)), (flA, .inl (cI, 38000, .inl Z.fl)), (trA, .inl (cI, 400, .inl rwu)), (tsA, .inl (cI, 4000, .inl slu))] H → va_D A [(h, .inr (10, [tx_order, tx_length, tx_size, tx_unsure, tx_stranded, tx_dead, .ref sk, .ref ch, tx_lines, tx_loaded, tx_version, .int (nI yf), .ref trA, .ref tsA, .int (nI (rlN S yf (lnU S mw yf ii) (S.BH ii) j)), tx_reach, tx_deleters, tx_gone, tx_waits])), (sk, .inr (9, [.ref b_y, sk_from, sk_firstDependency, .ref fcA, sk_dependencies, sk_hashes, sk_byHash, sk_leansOn, sk_leantBy, .ref ch, sk_lines, sk_patches])), (b_y, .inl (cB, 290000, .inl S.f)), (fcA, .inl (cI, 502, .inl Z.fc)), (ch, .inr (1, [.ref cat, ch_patch, .ref cfA, .ref flA, ch_adds, ch_files])), (cat, .inl (cI, 38000, .inl Z.ca)), (cfA, .inl (cI, 38000, .inl Z.cf)), (flA, .inl (cI, 38000, .inl Z.fl)), (trA, .inl (cI, 400, .inl rwu)), (tsA, .inl (cI, 4000, .inl slu))] → va_S A s.heap H locs → lv_has ls 6 [(0, .ref h), (1, .int (nI (S.BH ii))), (2, .int (nI (S.FC (S.BH ii) + j)))] → W p l e (headSpec ws_Tx_gatherFrom ({ frames := 2, cells := 0, slots := 0, locals := 120 })).room s m ([.ref h, .int (nI (S.BH ii))] : List Value).toArray below meth c H locs 0 0 Q (F0 m 10 ls []) := by
    intro n9
    induction n9 with
    | zero => intro j rwu slu H locs ls hm; exact absurd hm (Nat.not_lt_zero _)
    | succ n9 ih_10 =>
      intro j rwu slu H locs ls hm hj ha1 ha2 hP hD hS hl
      refine lv_iload_n hx hb d_Tx_gatherFrom_10 rfl (lv_at hl 2 rfl) ?_
      refine lv_aload_n hx hb d_Tx_gatherFrom_11 rfl (lv_at hl 0 rfl) ?_
      refine va_get (D := (dC, dI)) (ci := 10) (v := .ref sk) (C := R_Tx) (T := F_Tx) (N := 19) hx hb hts i_Tx hown hK hP 0 rfl rfl 6 (by decide) (hts _ gw_388) (fun _ h9 => h9) rfl d_Tx_gatherFrom_12 ?_
      refine va_get (D := (dC, dI)) (ci := 9) (v := .ref fcA) (C := R_St) (T := F_St) (N := 12) hx hb hts i_St hown hK hP 1 rfl rfl 3 (by decide) (hts _ gw_199) (fun _ h9 => h9) rfl d_Tx_gatherFrom_15 ?_
      refine lv_iload_n hx hb d_Tx_gatherFrom_18 rfl (lv_at hl 1 rfl) ?_
      refine lv_iconst (v := 1) hx hb d_Tx_gatherFrom_19 (by decide) ?_
      refine lv_iadd hx hb d_Tx_gatherFrom_20 ?_
      refine lv_topi (fun x_2 ex_2 => ?_)
      obtain rfl : x_2 = nI (S.BH ii + 1) := by rw [ex_2]; first | done | (exact nI_add _ _)
      refine va_iald hx hb hK hP 3 0 rfl rfl (vp_in_nI (by omega) (by omega)) d_Tx_gatherFrom_21 ?_
      rw [show (nI (S.BH ii + 1)).toNatClampNeg = (S.BH ii + 1) from nI_clamp (by omega)]
      refine lv_topi (fun x_3 ex_3 => ?_)
      obtain rfl : x_3 = nI (S.FC (S.BH ii) + S.nT (S.BH ii)) := by rw [ex_3]; first | done | (rw [R.fc ((S.BH ii) + 1) (by omega), hpi.fc])
      refine lv_icmp_ge (tgt := 149) hx hb d_Tx_gatherFrom_22 (by decide) (fun c_22 => ?_) (fun c_22 => ?_)
      · have n_22 : (S.FC (S.BH ii) + S.nT (S.BH ii)) ≤ (S.FC (S.BH ii) + j) := (nI_leI (a := (S.FC (S.BH ii) + S.nT (S.BH ii))) (b := (S.FC (S.BH ii) + j)) (by omega) (by omega)).mp c_22
        have hjT : j = S.nT (S.BH ii) := by omega
        rw [hjT] at hP hD ha1 ha2
        rw [← hQe]
        exact W.vret hx hb hr (fun t ht hW => ⟨⟨(rwu, slu), rfl, ⟨ha1, ha2⟩, by rw [ht]; exact hP, va_K.moved hW.alike hK, hD⟩, hS.F ht⟩) hS.2.2 d_Tx_gatherFrom_149
      · have n_22 : (S.FC (S.BH ii) + j) < (S.FC (S.BH ii) + S.nT (S.BH ii)) := Nat.lt_of_not_le (fun z => c_22 ((nI_leI (a := (S.FC (S.BH ii) + S.nT (S.BH ii))) (b := (S.FC (S.BH ii) + j)) (by omega) (by omega)).mpr z))
        have hga := R.ca (S.FC (S.BH ii) + j) (by omega)
        have hcw := I.chw (k := (S.BH ii) + 1) (by omega) (x := (S.FC (S.BH ii) + j)) (by rw [hpi.fc]; omega)
        have hcw1 := hcw.1
        have hcf := I.cfl (i := (S.FC (S.BH ii) + j)) (by omega)
        refine lv_aload_n hx hb d_Tx_gatherFrom_25 rfl (lv_at hl 0 rfl) ?_
        refine va_get (D := (dC, dI)) (ci := 10) (v := .ref ch) (C := R_Tx) (T := F_Tx) (N := 19) hx hb hts i_Tx hown hK hP 0 rfl rfl 7 (by decide) (hts _ gw_389) (fun _ h9 => h9) rfl d_Tx_gatherFrom_26 ?_
        refine va_get (D := (dC, dI)) (ci := 1) (v := .ref cfA) (C := R_Ch) (T := F_Ch) (N := 6) hx hb hts i_Ch hown hK hP 4 rfl rfl 2 (by decide) (hts _ gw_101) (fun _ h9 => h9) rfl d_Tx_gatherFrom_29 ?_
        refine lv_iload_n hx hb d_Tx_gatherFrom_32 rfl (lv_at hl 2 rfl) ?_
        refine va_iald hx hb hK hP 6 0 rfl rfl (vp_in_nI (by omega) (by omega)) d_Tx_gatherFrom_33 ?_
        rw [show (nI (S.FC (S.BH ii) + j)).toNatClampNeg = (S.FC (S.BH ii) + j) from nI_clamp (by omega)]
        refine lv_topi (fun x_4 ex_4 => ?_)
        obtain rfl : x_4 = nI (S.CF (S.FC (S.BH ii) + j)) := by rw [ex_4]; first | done | (exact R.cf (S.FC (S.BH ii) + j) (by omega))
        refine lv_aload_n hx hb d_Tx_gatherFrom_34 rfl (lv_at hl 0 rfl) ?_
        refine va_get (D := (dC, dI)) (ci := 10) (v := .int (nI yf)) (C := R_Tx) (T := F_Tx) (N := 19) hx hb hts i_Tx hown hK hP 0 rfl rfl 11 (by decide) (hts _ gw_393) (fun _ h9 => h9) rfl d_Tx_gatherFrom_35 ?_
        refine lv_icmp_ne (tgt := 143) hx hb d_Tx_gatherFrom_38 (by decide) (fun c_38 => ?_) (fun c_38 => ?_)
        · have n_38 : ¬ (S.CF (S.FC (S.BH ii) + j)) = yf := fun z => c_38 ((nI_eq (a := (S.CF (S.FC (S.BH ii) + j))) (b := yf) (by omega) (by omega)).mpr z)
          have hno : ¬ (S.f (S.CA (S.FC (S.BH ii) + j)) = 2 ∧ S.CF (S.FC (S.BH ii) + j) = yf) := fun z => n_38 z.2
          refine lv_iinc (v := nI ((S.FC (S.BH ii) + j) + 1)) (lv' := [(2, .int (nI ((S.FC (S.BH ii) + j) + 1))), (0, .ref h), (1, .int (nI (S.BH ii)))]) hx hb d_Tx_gatherFrom_143 hl (k := 2) rfl (by exact nI_add _ _) (by decide) rfl (fun ls hl => ?_)
          refine lv_goto (tgt := 10) hx hb d_Tx_gatherFrom_146 (by decide) ?_
          have hlq : lnQ S yf (S.BH ii) (j + 1) = lnQ S yf (S.BH ii) j := lnQ_no hno
          rw [show nI (rlN S yf (lnU S mw yf ii) (S.BH ii) j) = nI (rlN S yf (lnU S mw yf ii) (S.BH ii) (j + 1)) from congrArg nI (by unfold rlN; rw [hlq])] at hP hD
          exact ih_10 (j + 1) rwu slu _ _ _ (by omega) (by omega) (by rw [hlq]; exact ha1) (by rw [hlq]; exact ha2) hP hD hS (lv_sub hl [1, 2, 0] rfl)
        · have n_38 : (S.CF (S.FC (S.BH ii) + j)) = yf := (nI_eq (a := (S.CF (S.FC (S.BH ii) + j))) (b := yf) (by omega) (by omega)).mp c_38
          refine lv_aload_n hx hb d_Tx_gatherFrom_41 rfl (lv_at hl 0 rfl) ?_
          refine va_get (D := (dC, dI)) (ci := 10) (v := .ref sk) (C := R_Tx) (T := F_Tx) (N := 19) hx hb hts i_Tx hown hK hP 0 rfl rfl 6 (by decide) (hts _ gw_388) (fun _ h9 => h9) rfl d_Tx_gatherFrom_42 ?_
          refine lv_iload_n hx hb d_Tx_gatherFrom_45 rfl (lv_at hl 2 rfl) ?_
          have hPc := hP.sub (ws' := [(sk, .inr (9, [.ref b_y, sk_from, sk_firstDependency, .ref fcA, sk_dependencies, sk_hashes, sk_byHash, sk_leansOn, sk_leantBy, .ref ch, sk_lines, sk_patches])), (b_y, .inl (cB, 290000, .inl S.f)), (ch, .inr (1, [.ref cat, ch_patch, .ref cfA, .ref flA, ch_adds, ch_files])), (cat, .inl (cI, 38000, .inl Z.ca))]) [1, 2, 4, 5] rfl
          have hDc := hD.sub (ws' := [(sk, .inr (9, [.ref b_y, sk_from, sk_firstDependency, .ref fcA, sk_dependencies, sk_hashes, sk_byHash, sk_leansOn, sk_leantBy, .ref ch, sk_lines, sk_patches])), (b_y, .inl (cB, 290000, .inl S.f)), (ch, .inr (1, [.ref cat, ch_patch, .ref cfA, .ref flA, ch_adds, ch_files])), (cat, .inl (cI, 38000, .inl Z.ca))]) [1, 2, 4, 5] (by decide) rfl
          have hFc := va_free (wc := [(sk, .inr (9, [.ref b_y, sk_from, sk_firstDependency, .ref fcA, sk_dependencies, sk_hashes, sk_byHash, sk_leansOn, sk_leantBy, .ref ch, sk_lines, sk_patches])), (b_y, .inl (cB, 290000, .inl S.f)), (ch, .inr (1, [.ref cat, ch_patch, .ref cfA, .ref flA, ch_adds, ch_files])), (cat, .inl (cI, 38000, .inl Z.ca))]) hD hS hA [1, 2, 4, 5] rfl
          refine va_calli (va_runV (As := [.int (nI (S.FC (S.BH ii) + j))]) (rest := []) ⟨hx, hb, hml, hown, hts⟩ (m_St_kind l dC dI cI cB cL cZ cR sk b_y ch cat (sk_from) (sk_firstDependency) (.ref fcA) (sk_dependencies) (sk_hashes) (sk_byHash) (sk_leansOn) (sk_leantBy) (sk_lines) (sk_patches) (ch_patch) (.ref cfA) (.ref flA) (ch_adds) (ch_files) S.f Z.ca (S.FC (S.BH ii) + j) (S.CA (S.FC (S.BH ii) + j)) H.size (by omega) hga (by omega)) (cwV 1 hts (xg_V gw_1057 gw_890 gw_891 gw_3 gw_892) rfl rfl rfl (by decide +kernel) ⟨Nat.le_of_ble_eq_true rfl, Nat.le_of_ble_eq_true rfl⟩) ⟨xw_blind, va_recv hK hPc (ci := 9) (q0 := 0) rfl rfl, fun U hU hW => ⟨rfl, by rw [hU], by rw [hU]; exact hPc, va_K.moved hW.alike hK, hDc.weaken (fun _ _ _ _ => trivial)⟩⟩ rfl rfl hl.1 rfl (lv_room (Nat.le_of_ble_eq_true rfl)) d_Tx_gatherFrom_46 ⟨Nat.le_of_ble_eq_true rfl, Nat.le_of_ble_eq_true rfl⟩) hS (fun q _ h => hFc q h) hFc (fun r9 u t H1 locs ht hvm hw hB hz1 hk1 hS => ?_)
          obtain ⟨hP1, hK1, hD1⟩ := hB
          rw [ht] at hP1
          obtain ⟨hP, hD⟩ := va_join (wr := [(h, .inr (10, [tx_order, tx_length, tx_size, tx_unsure, tx_stranded, tx_dead, .ref sk, .ref ch, tx_lines, tx_loaded, tx_version, .int (nI yf), .ref trA, .ref tsA, .int (nI (rlN S yf (lnU S mw yf ii) (S.BH ii) j)), tx_reach, tx_deleters, tx_gone, tx_waits])), (fcA, .inl (cI, 502, .inl Z.fc)), (cfA, .inl (cI, 38000, .inl Z.cf)), (flA, .inl (cI, 38000, .inl Z.fl)), (trA, .inl (cI, 400, .inl rwu)), (tsA, .inl (cI, 4000, .inl slu))]) (w1 := [(sk, .inr (9, [.ref b_y, sk_from, sk_firstDependency, .ref fcA, sk_dependencies, sk_hashes, sk_byHash, sk_leansOn, sk_leantBy, .ref ch, sk_lines, sk_patches])), (b_y, .inl (cB, 290000, .inl S.f)), (ch, .inr (1, [.ref cat, ch_patch, .ref cfA, .ref flA, ch_adds, ch_files])), (cat, .inl (cI, 38000, .inl Z.ca))]) hP hD [1, 2, 4, 5] [0, 3, 6, 7, 8, 9] rfl rfl (by decide) (by decide) hk1 hFc hP1 hD1
          generalize H1 = H at hP hS ⊢
          have hP : va_P (dC, dI) classes [(h, .inr (10, [tx_order, tx_length, tx_size, tx_unsure, tx_stranded, tx_dead, .ref sk, .ref ch, tx_lines, tx_loaded, tx_version, .int (nI yf), .ref trA, .ref tsA, .int (nI (rlN S yf (lnU S mw yf ii) (S.BH ii) j)), tx_reach, tx_deleters, tx_gone, tx_waits])), (fcA, .inl (cI, 502, .inl Z.fc)), (cfA, .inl (cI, 38000, .inl Z.cf)), (flA, .inl (cI, 38000, .inl Z.fl)), (trA, .inl (cI, 400, .inl rwu)), (tsA, .inl (cI, 4000, .inl slu)), (sk, .inr (9, [.ref b_y, sk_from, sk_firstDependency, .ref fcA, sk_dependencies, sk_hashes, sk_byHash, sk_leansOn, sk_leantBy, .ref ch, sk_lines, sk_patches])), (b_y, .inl (cB, 290000, .inl S.f)), (ch, .inr (1, [.ref cat, ch_patch, .ref cfA, .ref flA, ch_adds, ch_files])), (cat, .inl (cI, 38000, .inl Z.ca))] H := hP
          have hD : va_D A [(h, .inr (10, [tx_order, tx_length, tx_size, tx_unsure, tx_stranded, tx_dead, .ref sk, .ref ch, tx_lines, tx_loaded, tx_version, .int (nI yf), .ref trA, .ref tsA, .int (nI (rlN S yf (lnU S mw yf ii) (S.BH ii) j)), tx_reach, tx_deleters, tx_gone, tx_waits])), (fcA, .inl (cI, 502, .inl Z.fc)), (cfA, .inl (cI, 38000, .inl Z.cf)), (flA, .inl (cI, 38000, .inl Z.fl)), (trA, .inl (cI, 400, .inl rwu)), (tsA, .inl (cI, 4000, .inl slu)), (sk, .inr (9, [.ref b_y, sk_from, sk_firstDependency, .ref fcA, sk_dependencies, sk_hashes, sk_byHash, sk_leansOn, sk_leantBy, .ref ch, sk_lines, sk_patches])), (b_y, .inl (cB, 290000, .inl S.f)), (ch, .inr (1, [.ref cat, ch_patch, .ref cfA, .ref flA, ch_adds, ch_files])), (cat, .inl (cI, 38000, .inl Z.ca))] := hD
          subst hw
          refine lv_iconst (v := 2) hx hb d_Tx_gatherFrom_49 (by decide) ?_
          refine lv_icmp_eq (tgt := 56) hx hb d_Tx_gatherFrom_50 (by decide) (fun c_50 => ?_) (fun c_50 => ?_)
          · obtain ⟨hw1, hw2, hw3, hw4⟩ := hcw.2.2.1 c_50
            have hcle := I.cle hpb (by omega) c_50
            have hclb := NLs_mono S.f S.CA (S.FC (S.BH ii)) (S.NLp (S.BH ii)) (i := j + 1) (j := S.nT (S.BH ii)) (by omega)
            rw [← hpi.nl] at hclb
            have hclb2 := I.nlm (i := (S.BH ii) + 1) (k := S.P) (by omega) (Nat.le_refl _)
            have hclb3 := I.nlP
            have hfl := R.fl (S.FC (S.BH ii) + j) (by omega) c_50
            have htwd : tw S.f (lnAt S.f (S.CA (S.FC (S.BH ii) + j))) = (nLn S (S.FC (S.BH ii) + j)) := rfl
            have hlqm := lnQ_mono (S := S) (y := yf) (p := (S.BH ii)) (m := j + 1) (n := S.nT (S.BH ii)) (by omega)
            rw [lnQ_yes ⟨c_50, n_38⟩, List.length_append, seqL_len] at hlqm
            have hrn : (rlN S yf (lnU S mw yf ii) (S.BH ii) j) = (lnU S mw yf ii).length + (lnQ S yf (S.BH ii) j).length := List.length_append
            refine lv_aload_n hx hb d_Tx_gatherFrom_56 rfl (lv_at hl 0 rfl) ?_
            refine va_get (D := (dC, dI)) (ci := 10) (v := .ref ch) (C := R_Tx) (T := F_Tx) (N := 19) hx hb hts i_Tx hown hK hP 0 rfl rfl 7 (by decide) (hts _ gw_389) (fun _ h9 => h9) rfl d_Tx_gatherFrom_57 ?_
            refine va_get (D := (dC, dI)) (ci := 1) (v := .ref flA) (C := R_Ch) (T := F_Ch) (N := 6) hx hb hts i_Ch hown hK hP 8 rfl rfl 3 (by decide) (hts _ gw_104) (fun _ h9 => h9) rfl d_Tx_gatherFrom_60 ?_
            refine lv_iload_n hx hb d_Tx_gatherFrom_63 rfl (lv_at hl 2 rfl) ?_
            refine va_iald hx hb hK hP 3 0 rfl rfl (vp_in_nI (by omega) (by omega)) d_Tx_gatherFrom_64 ?_
            rw [show (nI (S.FC (S.BH ii) + j)).toNatClampNeg = (S.FC (S.BH ii) + j) from nI_clamp (by omega)]
            refine lv_topi (fun x_5 ex_5 => ?_)
            obtain rfl : x_5 = nI (S.CL (S.FC (S.BH ii) + j)) := by rw [ex_5]; first | done | (exact hfl)
            refine lv_istore_n (lv' := [(3, .int (nI (S.CL (S.FC (S.BH ii) + j)))), (0, .ref h), (1, .int (nI (S.BH ii))), (2, .int (nI (S.FC (S.BH ii) + j)))]) hx hb d_Tx_gatherFrom_65 rfl hl (by decide) rfl (fun ls hl => ?_)
            refine lv_iload_n hx hb d_Tx_gatherFrom_66 rfl (lv_at hl 0 rfl) ?_
            refine lv_aload_n hx hb d_Tx_gatherFrom_67 rfl (lv_at hl 1 rfl) ?_
            refine va_get (D := (dC, dI)) (ci := 10) (v := .ref sk) (C := R_Tx) (T := F_Tx) (N := 19) hx hb hts i_Tx hown hK hP 0 rfl rfl 6 (by decide) (hts _ gw_388) (fun _ h9 => h9) rfl d_Tx_gatherFrom_68 ?_
            refine lv_aload_n hx hb d_Tx_gatherFrom_71 rfl (lv_at hl 1 rfl) ?_
            refine va_get (D := (dC, dI)) (ci := 10) (v := .ref sk) (C := R_Tx) (T := F_Tx) (N := 19) hx hb hts i_Tx hown hK hP 0 rfl rfl 6 (by decide) (hts _ gw_388) (fun _ h9 => h9) rfl d_Tx_gatherFrom_72 ?_
            refine lv_iload_n hx hb d_Tx_gatherFrom_75 rfl (lv_at hl 3 rfl) ?_
            have hPc := hP.sub (ws' := [(sk, .inr (9, [.ref b_y, sk_from, sk_firstDependency, .ref fcA, sk_dependencies, sk_hashes, sk_byHash, sk_leansOn, sk_leantBy, .ref ch, sk_lines, sk_patches])), (b_y, .inl (cB, 290000, .inl S.f)), (ch, .inr (1, [.ref cat, ch_patch, .ref cfA, .ref flA, ch_adds, ch_files])), (cat, .inl (cI, 38000, .inl Z.ca))]) [6, 7, 8, 9] rfl
            have hDc := hD.sub (ws' := [(sk, .inr (9, [.ref b_y, sk_from, sk_firstDependency, .ref fcA, sk_dependencies, sk_hashes, sk_byHash, sk_leansOn, sk_leantBy, .ref ch, sk_lines, sk_patches])), (b_y, .inl (cB, 290000, .inl S.f)), (ch, .inr (1, [.ref cat, ch_patch, .ref cfA, .ref flA, ch_adds, ch_files])), (cat, .inl (cI, 38000, .inl Z.ca))]) [6, 7, 8, 9] (by decide) rfl
            have hFc := va_free (wc := [(sk, .inr (9, [.ref b_y, sk_from, sk_firstDependency, .ref fcA, sk_dependencies, sk_hashes, sk_byHash, sk_leansOn, sk_leantBy, .ref ch, sk_lines, sk_patches])), (b_y, .inl (cB, 290000, .inl S.f)), (ch, .inr (1, [.ref cat, ch_patch, .ref cfA, .ref flA, ch_adds, ch_files])), (cat, .inl (cI, 38000, .inl Z.ca))]) hD hS hA [6, 7, 8, 9] rfl
            refine va_calli (va_runV (As := [.int (nI (S.FC (S.BH ii) + j))]) (rest := [.ref sk, .int (nI (S.CL (S.FC (S.BH ii) + j)))]) ⟨hx, hb, hml, hown, hts⟩ (m_St_linesAt l dC dI cI cB cL cZ cR sk b_y ch cat (sk_from) (sk_firstDependency) (.ref fcA) (sk_dependencies) (sk_hashes) (sk_byHash) (sk_leansOn) (sk_leantBy) (sk_lines) (sk_patches) (ch_patch) (.ref cfA) (.ref flA) (ch_adds) (ch_files) S.f Z.ca (S.FC (S.BH ii) + j) (S.CA (S.FC (S.BH ii) + j)) H.size (by omega) hga (by omega) (by omega)) (cwV 1 hts (xg_V gw_1058 gw_919 gw_920 gw_3 gw_921) rfl rfl rfl (by decide +kernel) ⟨Nat.le_of_ble_eq_true rfl, Nat.le_of_ble_eq_true rfl⟩) ⟨xw_blind, va_recv hK hPc (ci := 9) (q0 := 0) rfl rfl, fun U hU hW => ⟨rfl, by rw [hU], by rw [hU]; exact hPc, va_K.moved hW.alike hK, hDc.weaken (fun _ _ _ _ => trivial)⟩⟩ rfl rfl hl.1 rfl (lv_room (Nat.le_of_ble_eq_true rfl)) d_Tx_gatherFrom_76 ⟨Nat.le_of_ble_eq_true rfl, Nat.le_of_ble_eq_true rfl⟩) hS (fun q _ h => hFc q h) hFc (fun r9 u t H1 locs ht hvm hw hB hz1 hk1 hS => ?_)
            obtain ⟨hP1, hK1, hD1⟩ := hB
            rw [ht] at hP1
            obtain ⟨hP, hD⟩ := va_join (wr := [(h, .inr (10, [tx_order, tx_length, tx_size, tx_unsure, tx_stranded, tx_dead, .ref sk, .ref ch, tx_lines, tx_loaded, tx_version, .int (nI yf), .ref trA, .ref tsA, .int (nI (rlN S yf (lnU S mw yf ii) (S.BH ii) j)), tx_reach, tx_deleters, tx_gone, tx_waits])), (fcA, .inl (cI, 502, .inl Z.fc)), (cfA, .inl (cI, 38000, .inl Z.cf)), (flA, .inl (cI, 38000, .inl Z.fl)), (trA, .inl (cI, 400, .inl rwu)), (tsA, .inl (cI, 4000, .inl slu))]) (w1 := [(sk, .inr (9, [.ref b_y, sk_from, sk_firstDependency, .ref fcA, sk_dependencies, sk_hashes, sk_byHash, sk_leansOn, sk_leantBy, .ref ch, sk_lines, sk_patches])), (b_y, .inl (cB, 290000, .inl S.f)), (ch, .inr (1, [.ref cat, ch_patch, .ref cfA, .ref flA, ch_adds, ch_files])), (cat, .inl (cI, 38000, .inl Z.ca))]) hP hD [6, 7, 8, 9] [0, 1, 2, 3, 4, 5] rfl rfl (by decide) (by decide) hk1 hFc hP1 hD1
            generalize H1 = H at hP hS ⊢
            have hP : va_P (dC, dI) classes [(h, .inr (10, [tx_order, tx_length, tx_size, tx_unsure, tx_stranded, tx_dead, .ref sk, .ref ch, tx_lines, tx_loaded, tx_version, .int (nI yf), .ref trA, .ref tsA, .int (nI (rlN S yf (lnU S mw yf ii) (S.BH ii) j)), tx_reach, tx_deleters, tx_gone, tx_waits])), (fcA, .inl (cI, 502, .inl Z.fc)), (cfA, .inl (cI, 38000, .inl Z.cf)), (flA, .inl (cI, 38000, .inl Z.fl)), (trA, .inl (cI, 400, .inl rwu)), (tsA, .inl (cI, 4000, .inl slu)), (sk, .inr (9, [.ref b_y, sk_from, sk_firstDependency, .ref fcA, sk_dependencies, sk_hashes, sk_byHash, sk_leansOn, sk_leantBy, .ref ch, sk_lines, sk_patches])), (b_y, .inl (cB, 290000, .inl S.f)), (ch, .inr (1, [.ref cat, ch_patch, .ref cfA, .ref flA, ch_adds, ch_files])), (cat, .inl (cI, 38000, .inl Z.ca))] H := hP
            have hD : va_D A [(h, .inr (10, [tx_order, tx_length, tx_size, tx_unsure, tx_stranded, tx_dead, .ref sk, .ref ch, tx_lines, tx_loaded, tx_version, .int (nI yf), .ref trA, .ref tsA, .int (nI (rlN S yf (lnU S mw yf ii) (S.BH ii) j)), tx_reach, tx_deleters, tx_gone, tx_waits])), (fcA, .inl (cI, 502, .inl Z.fc)), (cfA, .inl (cI, 38000, .inl Z.cf)), (flA, .inl (cI, 38000, .inl Z.fl)), (trA, .inl (cI, 400, .inl rwu)), (tsA, .inl (cI, 4000, .inl slu)), (sk, .inr (9, [.ref b_y, sk_from, sk_firstDependency, .ref fcA, sk_dependencies, sk_hashes, sk_byHash, sk_leansOn, sk_leantBy, .ref ch, sk_lines, sk_patches])), (b_y, .inl (cB, 290000, .inl S.f)), (ch, .inr (1, [.ref cat, ch_patch, .ref cfA, .ref flA, ch_adds, ch_files])), (cat, .inl (cI, 38000, .inl Z.ca))] := hD
            subst hw
            have hPc := hP.sub (ws' := [(sk, .inr (9, [.ref b_y, sk_from, sk_firstDependency, .ref fcA, sk_dependencies, sk_hashes, sk_byHash, sk_leansOn, sk_leantBy, .ref ch, sk_lines, sk_patches])), (b_y, .inl (cB, 290000, .inl S.f))]) [6, 7] rfl
            have hDc := hD.sub (ws' := [(sk, .inr (9, [.ref b_y, sk_from, sk_firstDependency, .ref fcA, sk_dependencies, sk_hashes, sk_byHash, sk_leansOn, sk_leantBy, .ref ch, sk_lines, sk_patches])), (b_y, .inl (cB, 290000, .inl S.f))]) [6, 7] (by decide) rfl
            have hFc := va_free (wc := [(sk, .inr (9, [.ref b_y, sk_from, sk_firstDependency, .ref fcA, sk_dependencies, sk_hashes, sk_byHash, sk_leansOn, sk_leantBy, .ref ch, sk_lines, sk_patches])), (b_y, .inl (cB, 290000, .inl S.f))]) hD hS hA [6, 7] rfl
            refine va_calli (va_runV (As := [.int (nI (lnAt S.f (S.CA (S.FC (S.BH ii) + j))))]) (rest := [.int (nI (S.CL (S.FC (S.BH ii) + j)))]) ⟨hx, hb, hml, hown, hts⟩ (m_St_two l dC dI cI cB cL cZ cR sk b_y (sk_from) (sk_firstDependency) (.ref fcA) (sk_dependencies) (sk_hashes) (sk_byHash) (sk_leansOn) (sk_leantBy) (.ref ch) (sk_lines) (sk_patches) S.f (lnAt S.f (S.CA (S.FC (S.BH ii) + j))) H.size (by omega)) (cwV 1 hts (xg_V gw_1059 gw_771 gw_772 gw_3 gw_773) rfl rfl rfl (by decide +kernel) ⟨Nat.le_of_ble_eq_true rfl, Nat.le_of_ble_eq_true rfl⟩) ⟨xw_blind, va_recv hK hPc (ci := 9) (q0 := 0) rfl rfl, fun U hU hW => ⟨rfl, by rw [hU], by rw [hU]; exact hPc, va_K.moved hW.alike hK, hDc.weaken (fun _ _ _ _ => trivial)⟩⟩ rfl rfl hl.1 rfl (lv_room (Nat.le_of_ble_eq_true rfl)) d_Tx_gatherFrom_79 ⟨Nat.le_of_ble_eq_true rfl, Nat.le_of_ble_eq_true rfl⟩) hS (fun q _ h => hFc q h) hFc (fun r9 u t H1 locs ht hvm hw hB hz1 hk1 hS => ?_)
            obtain ⟨hP1, hK1, hD1⟩ := hB
            rw [ht] at hP1
            obtain ⟨hP, hD⟩ := va_join (wr := [(h, .inr (10, [tx_order, tx_length, tx_size, tx_unsure, tx_stranded, tx_dead, .ref sk, .ref ch, tx_lines, tx_loaded, tx_version, .int (nI yf), .ref trA, .ref tsA, .int (nI (rlN S yf (lnU S mw yf ii) (S.BH ii) j)), tx_reach, tx_deleters, tx_gone, tx_waits])), (fcA, .inl (cI, 502, .inl Z.fc)), (cfA, .inl (cI, 38000, .inl Z.cf)), (flA, .inl (cI, 38000, .inl Z.fl)), (trA, .inl (cI, 400, .inl rwu)), (tsA, .inl (cI, 4000, .inl slu)), (ch, .inr (1, [.ref cat, ch_patch, .ref cfA, .ref flA, ch_adds, ch_files])), (cat, .inl (cI, 38000, .inl Z.ca))]) (w1 := [(sk, .inr (9, [.ref b_y, sk_from, sk_firstDependency, .ref fcA, sk_dependencies, sk_hashes, sk_byHash, sk_leansOn, sk_leantBy, .ref ch, sk_lines, sk_patches])), (b_y, .inl (cB, 290000, .inl S.f))]) hP hD [6, 7] [0, 1, 2, 3, 4, 5, 8, 9] rfl rfl (by decide) (by decide) hk1 hFc hP1 hD1
            generalize H1 = H at hP hS ⊢
            have hP : va_P (dC, dI) classes [(h, .inr (10, [tx_order, tx_length, tx_size, tx_unsure, tx_stranded, tx_dead, .ref sk, .ref ch, tx_lines, tx_loaded, tx_version, .int (nI yf), .ref trA, .ref tsA, .int (nI (rlN S yf (lnU S mw yf ii) (S.BH ii) j)), tx_reach, tx_deleters, tx_gone, tx_waits])), (fcA, .inl (cI, 502, .inl Z.fc)), (cfA, .inl (cI, 38000, .inl Z.cf)), (flA, .inl (cI, 38000, .inl Z.fl)), (trA, .inl (cI, 400, .inl rwu)), (tsA, .inl (cI, 4000, .inl slu)), (ch, .inr (1, [.ref cat, ch_patch, .ref cfA, .ref flA, ch_adds, ch_files])), (cat, .inl (cI, 38000, .inl Z.ca)), (sk, .inr (9, [.ref b_y, sk_from, sk_firstDependency, .ref fcA, sk_dependencies, sk_hashes, sk_byHash, sk_leansOn, sk_leantBy, .ref ch, sk_lines, sk_patches])), (b_y, .inl (cB, 290000, .inl S.f))] H := hP
            have hD : va_D A [(h, .inr (10, [tx_order, tx_length, tx_size, tx_unsure, tx_stranded, tx_dead, .ref sk, .ref ch, tx_lines, tx_loaded, tx_version, .int (nI yf), .ref trA, .ref tsA, .int (nI (rlN S yf (lnU S mw yf ii) (S.BH ii) j)), tx_reach, tx_deleters, tx_gone, tx_waits])), (fcA, .inl (cI, 502, .inl Z.fc)), (cfA, .inl (cI, 38000, .inl Z.cf)), (flA, .inl (cI, 38000, .inl Z.fl)), (trA, .inl (cI, 400, .inl rwu)), (tsA, .inl (cI, 4000, .inl slu)), (ch, .inr (1, [.ref cat, ch_patch, .ref cfA, .ref flA, ch_adds, ch_files])), (cat, .inl (cI, 38000, .inl Z.ca)), (sk, .inr (9, [.ref b_y, sk_from, sk_firstDependency, .ref fcA, sk_dependencies, sk_hashes, sk_byHash, sk_leansOn, sk_leantBy, .ref ch, sk_lines, sk_patches])), (b_y, .inl (cB, 290000, .inl S.f))] := hD
            subst hw
            have htw9 := tw_lt S.f (lnAt S.f (S.CA (S.FC (S.BH ii) + j)))
            refine lv_iadd hx hb d_Tx_gatherFrom_82 ?_
            refine lv_topi (fun x_6 ex_6 => ?_)
            obtain rfl : x_6 = nI ((S.CL (S.FC (S.BH ii) + j)) + (nLn S (S.FC (S.BH ii) + j))) := by rw [ex_6]; first | done | (exact nI_add _ _)
            refine lv_istore (lv' := [(4, .int (nI ((S.CL (S.FC (S.BH ii) + j)) + (nLn S (S.FC (S.BH ii) + j))))), (3, .int (nI (S.CL (S.FC (S.BH ii) + j)))), (0, .ref h), (1, .int (nI (S.BH ii))), (2, .int (nI (S.FC (S.BH ii) + j)))]) hx hb d_Tx_gatherFrom_83 hl (by decide) rfl (fun ls hl => ?_)
            refine lv_iload_n hx hb d_Tx_gatherFrom_85 rfl (lv_at hl 1 rfl) ?_
            refine lv_istore (lv' := [(5, .int (nI (S.CL (S.FC (S.BH ii) + j)))), (4, .int (nI ((S.CL (S.FC (S.BH ii) + j)) + (nLn S (S.FC (S.BH ii) + j))))), (3, .int (nI (S.CL (S.FC (S.BH ii) + j)))), (0, .ref h), (1, .int (nI (S.BH ii))), (2, .int (nI (S.FC (S.BH ii) + j)))]) hx hb d_Tx_gatherFrom_86 hl (by decide) rfl (fun ls hl => ?_)
            have loop_88 : ∀ (n9 : Nat) (q : Nat) (rwv : Nat → Int32) (slv : Nat → Int32) (H : Heap) (locs : List Loc) (ls : Array Slot), (nLn S (S.FC (S.BH ii) + j)) - q < n9 → (q ≤ (nLn S (S.FC (S.BH ii) + j))) → (arrL rwv (lnU S mw yf ii ++ lnQ S yf (S.BH ii) j ++ seqL (S.CL (S.FC (S.BH ii) + j)) q)) → (slR slv (lnU S mw yf ii ++ lnQ S yf (S.BH ii) j ++ seqL (S.CL (S.FC (S.BH ii) + j)) q)) → va_P (dC, dI) classes [(h, .inr (10, [tx_order, tx_length, tx_size, tx_unsure, tx_stranded, tx_dead, .ref sk, .ref ch, tx_lines, tx_loaded, tx_version, .int (nI yf), .ref trA, .ref tsA, .int (nI ((rlN S yf (lnU S mw yf ii) (S.BH ii) j) + q)), tx_reach, tx_deleters, tx_gone, tx_waits])), (sk, .inr (9, [.ref b_y, sk_from, sk_firstDependency, .ref fcA, sk_dependencies, sk_hashes, sk_byHash, sk_leansOn, sk_leantBy, .ref ch, sk_lines, sk_patches])), (b_y, .inl (cB, 290000, .inl S.f)), (fcA, .inl (cI, 502, .inl Z.fc)), (ch, .inr (1, [.ref cat, ch_patch, .ref cfA, .ref flA, ch_adds, ch_files])), (cat, .inl (cI, 38000, .inl Z.ca)), (cfA, .inl (cI, 38000, .inl Z.cf)), (flA, .inl (cI, 38000, .inl Z.fl)), (trA, .inl (cI, 400, .inl rwv)), (tsA, .inl (cI, 4000, .inl slv))] H → va_D A [(h, .inr (10, [tx_order, tx_length, tx_size, tx_unsure, tx_stranded, tx_dead, .ref sk, .ref ch, tx_lines, tx_loaded, tx_version, .int (nI yf), .ref trA, .ref tsA, .int (nI ((rlN S yf (lnU S mw yf ii) (S.BH ii) j) + q)), tx_reach, tx_deleters, tx_gone, tx_waits])), (sk, .inr (9, [.ref b_y, sk_from, sk_firstDependency, .ref fcA, sk_dependencies, sk_hashes, sk_byHash, sk_leansOn, sk_leantBy, .ref ch, sk_lines, sk_patches])), (b_y, .inl (cB, 290000, .inl S.f)), (fcA, .inl (cI, 502, .inl Z.fc)), (ch, .inr (1, [.ref cat, ch_patch, .ref cfA, .ref flA, ch_adds, ch_files])), (cat, .inl (cI, 38000, .inl Z.ca)), (cfA, .inl (cI, 38000, .inl Z.cf)), (flA, .inl (cI, 38000, .inl Z.fl)), (trA, .inl (cI, 400, .inl rwv)), (tsA, .inl (cI, 4000, .inl slv))] → va_S A s.heap H locs → lv_has ls 6 [(0, .ref h), (1, .int (nI (S.BH ii))), (2, .int (nI (S.FC (S.BH ii) + j))), (3, .int (nI (S.CL (S.FC (S.BH ii) + j)))), (4, .int (nI ((S.CL (S.FC (S.BH ii) + j)) + (nLn S (S.FC (S.BH ii) + j))))), (5, .int (nI ((S.CL (S.FC (S.BH ii) + j)) + q)))] → W p l e (headSpec ws_Tx_gatherFrom ({ frames := 2, cells := 0, slots := 0, locals := 120 })).room s m ([.ref h, .int (nI (S.BH ii))] : List Value).toArray below meth c H locs 0 0 Q (F0 m 88 ls []) := by
              intro n9
              induction n9 with
              | zero => intro q rwv slv H locs ls hm; exact absurd hm (Nat.not_lt_zero _)
              | succ n9 ih_88 =>
                intro q rwv slv H locs ls hm hq hr1 hr2 hP hD hS hl
                refine lv_iload hx hb d_Tx_gatherFrom_88 (lv_at hl 5 rfl) ?_
                refine lv_iload hx hb d_Tx_gatherFrom_90 (lv_at hl 4 rfl) ?_
                refine lv_icmp_ge (tgt := 143) hx hb d_Tx_gatherFrom_92 (by decide) (fun c_92 => ?_) (fun c_92 => ?_)
                · have n_92 : ((S.CL (S.FC (S.BH ii) + j)) + (nLn S (S.FC (S.BH ii) + j))) ≤ ((S.CL (S.FC (S.BH ii) + j)) + q) := (nI_leI (a := ((S.CL (S.FC (S.BH ii) + j)) + (nLn S (S.FC (S.BH ii) + j)))) (b := ((S.CL (S.FC (S.BH ii) + j)) + q)) (by omega) (by omega)).mp c_92
                  refine lv_iinc (v := nI ((S.FC (S.BH ii) + j) + 1)) (lv' := [(2, .int (nI ((S.FC (S.BH ii) + j) + 1))), (0, .ref h), (1, .int (nI (S.BH ii))), (3, .int (nI (S.CL (S.FC (S.BH ii) + j)))), (4, .int (nI ((S.CL (S.FC (S.BH ii) + j)) + (nLn S (S.FC (S.BH ii) + j))))), (5, .int (nI ((S.CL (S.FC (S.BH ii) + j)) + q)))]) hx hb d_Tx_gatherFrom_143 hl (k := 2) rfl (by exact nI_add _ _) (by decide) rfl (fun ls hl => ?_)
                  refine lv_goto (tgt := 10) hx hb d_Tx_gatherFrom_146 (by decide) ?_
                  have hqT : q = (nLn S (S.FC (S.BH ii) + j)) := by omega
                  have hlq : lnU S mw yf ii ++ lnQ S yf (S.BH ii) (j + 1) = (lnU S mw yf ii ++ lnQ S yf (S.BH ii) j ++ seqL (S.CL (S.FC (S.BH ii) + j)) q) := by rw [lnQ_yes ⟨c_50, n_38⟩, hqT, ← List.append_assoc]
                  rw [show nI ((rlN S yf (lnU S mw yf ii) (S.BH ii) j) + q) = nI (rlN S yf (lnU S mw yf ii) (S.BH ii) (j + 1)) from congrArg nI (by unfold rlN; rw [hlq]; simp only [List.length_append, seqL_len])] at hP hD
                  exact ih_10 (j + 1) rwv slv _ _ _ (by omega) (by omega) (by rw [hlq]; exact hr1) (by rw [hlq]; exact hr2) hP hD hS (lv_sub hl [1, 2, 0] rfl)
                · have n_92 : ((S.CL (S.FC (S.BH ii) + j)) + q) < ((S.CL (S.FC (S.BH ii) + j)) + (nLn S (S.FC (S.BH ii) + j))) := Nat.lt_of_not_le (fun z => c_92 ((nI_leI (a := ((S.CL (S.FC (S.BH ii) + j)) + (nLn S (S.FC (S.BH ii) + j)))) (b := ((S.CL (S.FC (S.BH ii) + j)) + q)) (by omega) (by omega)).mpr z))
                  have hlen : (lnU S mw yf ii ++ lnQ S yf (S.BH ii) j ++ seqL (S.CL (S.FC (S.BH ii) + j)) q).length = (rlN S yf (lnU S mw yf ii) (S.BH ii) j) + q := by rw [List.length_append, seqL_len]; rfl
                  refine lv_aload_n hx hb d_Tx_gatherFrom_95 rfl (lv_at hl 0 rfl) ?_
                  refine va_get (D := (dC, dI)) (ci := 10) (v := .int (nI ((rlN S yf (lnU S mw yf ii) (S.BH ii) j) + q))) (C := R_Tx) (T := F_Tx) (N := 19) hx hb hts i_Tx hown hK hP 0 rfl rfl 14 (by decide) (hts _ gw_396) (fun _ h9 => h9) rfl d_Tx_gatherFrom_96 ?_
                  refine lv_sipush (v := 400) hx hb d_Tx_gatherFrom_99 (by decide) ?_
                  refine lv_icmp_ge (tgt := 143) hx hb d_Tx_gatherFrom_102 (by decide) (fun c_102 => absurd c_102 (fun z => absurd ((nI_leI (a := 400) (b := (rlN S yf (lnU S mw yf ii) (S.BH ii) j) + q) (by omega) (by omega)).mp z) (by omega))) (fun _ => ?_)
                  refine lv_aload_n hx hb d_Tx_gatherFrom_105 rfl (lv_at hl 0 rfl) ?_
                  refine va_get (D := (dC, dI)) (ci := 10) (v := .ref trA) (C := R_Tx) (T := F_Tx) (N := 19) hx hb hts i_Tx hown hK hP 0 rfl rfl 12 (by decide) (hts _ gw_394) (fun _ h9 => h9) rfl d_Tx_gatherFrom_106 ?_
                  refine lv_aload_n hx hb d_Tx_gatherFrom_109 rfl (lv_at hl 0 rfl) ?_
                  refine va_get (D := (dC, dI)) (ci := 10) (v := .int (nI ((rlN S yf (lnU S mw yf ii) (S.BH ii) j) + q))) (C := R_Tx) (T := F_Tx) (N := 19) hx hb hts i_Tx hown hK hP 0 rfl rfl 14 (by decide) (hts _ gw_396) (fun _ h9 => h9) rfl d_Tx_gatherFrom_110 ?_
                  refine lv_iload hx hb d_Tx_gatherFrom_113 (lv_at hl 5 rfl) ?_
                  refine va_iast hx hb hK hP hD hS 8 0 rfl rfl (vp_in_nI (by omega) (by omega)) d_Tx_gatherFrom_115 (fun H locs hP hD hS => ?_)
                  rw [show (nI ((rlN S yf (lnU S mw yf ii) (S.BH ii) j) + q)).toNatClampNeg = ((rlN S yf (lnU S mw yf ii) (S.BH ii) j) + q) from nI_clamp (by omega)] at hP hD
                  have hP : va_P (dC, dI) classes [(h, .inr (10, [tx_order, tx_length, tx_size, tx_unsure, tx_stranded, tx_dead, .ref sk, .ref ch, tx_lines, tx_loaded, tx_version, .int (nI yf), .ref trA, .ref tsA, .int (nI ((rlN S yf (lnU S mw yf ii) (S.BH ii) j) + q)), tx_reach, tx_deleters, tx_gone, tx_waits])), (sk, .inr (9, [.ref b_y, sk_from, sk_firstDependency, .ref fcA, sk_dependencies, sk_hashes, sk_byHash, sk_leansOn, sk_leantBy, .ref ch, sk_lines, sk_patches])), (b_y, .inl (cB, 290000, .inl S.f)), (fcA, .inl (cI, 502, .inl Z.fc)), (ch, .inr (1, [.ref cat, ch_patch, .ref cfA, .ref flA, ch_adds, ch_files])), (cat, .inl (cI, 38000, .inl Z.ca)), (cfA, .inl (cI, 38000, .inl Z.cf)), (flA, .inl (cI, 38000, .inl Z.fl)), (trA, .inl (cI, 400, .inl (upd rwv ((rlN S yf (lnU S mw yf ii) (S.BH ii) j) + q) (nI ((S.CL (S.FC (S.BH ii) + j)) + q))))), (tsA, .inl (cI, 4000, .inl slv))] H := hP
                  have hD : va_D A [(h, .inr (10, [tx_order, tx_length, tx_size, tx_unsure, tx_stranded, tx_dead, .ref sk, .ref ch, tx_lines, tx_loaded, tx_version, .int (nI yf), .ref trA, .ref tsA, .int (nI ((rlN S yf (lnU S mw yf ii) (S.BH ii) j) + q)), tx_reach, tx_deleters, tx_gone, tx_waits])), (sk, .inr (9, [.ref b_y, sk_from, sk_firstDependency, .ref fcA, sk_dependencies, sk_hashes, sk_byHash, sk_leansOn, sk_leantBy, .ref ch, sk_lines, sk_patches])), (b_y, .inl (cB, 290000, .inl S.f)), (fcA, .inl (cI, 502, .inl Z.fc)), (ch, .inr (1, [.ref cat, ch_patch, .ref cfA, .ref flA, ch_adds, ch_files])), (cat, .inl (cI, 38000, .inl Z.ca)), (cfA, .inl (cI, 38000, .inl Z.cf)), (flA, .inl (cI, 38000, .inl Z.fl)), (trA, .inl (cI, 400, .inl (upd rwv ((rlN S yf (lnU S mw yf ii) (S.BH ii) j) + q) (nI ((S.CL (S.FC (S.BH ii) + j)) + q))))), (tsA, .inl (cI, 4000, .inl slv))] := hD
                  refine lv_aload_n hx hb d_Tx_gatherFrom_116 rfl (lv_at hl 0 rfl) ?_
                  refine va_get (D := (dC, dI)) (ci := 10) (v := .ref tsA) (C := R_Tx) (T := F_Tx) (N := 19) hx hb hts i_Tx hown hK hP 0 rfl rfl 13 (by decide) (hts _ gw_395) (fun _ h9 => h9) rfl d_Tx_gatherFrom_117 ?_
                  refine lv_iload hx hb d_Tx_gatherFrom_120 (lv_at hl 5 rfl) ?_
                  refine lv_aload_n hx hb d_Tx_gatherFrom_122 rfl (lv_at hl 0 rfl) ?_
                  refine va_get (D := (dC, dI)) (ci := 10) (v := .int (nI ((rlN S yf (lnU S mw yf ii) (S.BH ii) j) + q))) (C := R_Tx) (T := F_Tx) (N := 19) hx hb hts i_Tx hown hK hP 0 rfl rfl 14 (by decide) (hts _ gw_396) (fun _ h9 => h9) rfl d_Tx_gatherFrom_123 ?_
                  refine va_iast hx hb hK hP hD hS 9 0 rfl rfl (vp_in_nI (by omega) (by omega)) d_Tx_gatherFrom_126 (fun H locs hP hD hS => ?_)
                  rw [show (nI ((S.CL (S.FC (S.BH ii) + j)) + q)).toNatClampNeg = ((S.CL (S.FC (S.BH ii) + j)) + q) from nI_clamp (by omega)] at hP hD
                  have hP : va_P (dC, dI) classes [(h, .inr (10, [tx_order, tx_length, tx_size, tx_unsure, tx_stranded, tx_dead, .ref sk, .ref ch, tx_lines, tx_loaded, tx_version, .int (nI yf), .ref trA, .ref tsA, .int (nI ((rlN S yf (lnU S mw yf ii) (S.BH ii) j) + q)), tx_reach, tx_deleters, tx_gone, tx_waits])), (sk, .inr (9, [.ref b_y, sk_from, sk_firstDependency, .ref fcA, sk_dependencies, sk_hashes, sk_byHash, sk_leansOn, sk_leantBy, .ref ch, sk_lines, sk_patches])), (b_y, .inl (cB, 290000, .inl S.f)), (fcA, .inl (cI, 502, .inl Z.fc)), (ch, .inr (1, [.ref cat, ch_patch, .ref cfA, .ref flA, ch_adds, ch_files])), (cat, .inl (cI, 38000, .inl Z.ca)), (cfA, .inl (cI, 38000, .inl Z.cf)), (flA, .inl (cI, 38000, .inl Z.fl)), (trA, .inl (cI, 400, .inl (upd rwv ((rlN S yf (lnU S mw yf ii) (S.BH ii) j) + q) (nI ((S.CL (S.FC (S.BH ii) + j)) + q))))), (tsA, .inl (cI, 4000, .inl (upd slv ((S.CL (S.FC (S.BH ii) + j)) + q) (nI ((rlN S yf (lnU S mw yf ii) (S.BH ii) j) + q)))))] H := hP
                  have hD : va_D A [(h, .inr (10, [tx_order, tx_length, tx_size, tx_unsure, tx_stranded, tx_dead, .ref sk, .ref ch, tx_lines, tx_loaded, tx_version, .int (nI yf), .ref trA, .ref tsA, .int (nI ((rlN S yf (lnU S mw yf ii) (S.BH ii) j) + q)), tx_reach, tx_deleters, tx_gone, tx_waits])), (sk, .inr (9, [.ref b_y, sk_from, sk_firstDependency, .ref fcA, sk_dependencies, sk_hashes, sk_byHash, sk_leansOn, sk_leantBy, .ref ch, sk_lines, sk_patches])), (b_y, .inl (cB, 290000, .inl S.f)), (fcA, .inl (cI, 502, .inl Z.fc)), (ch, .inr (1, [.ref cat, ch_patch, .ref cfA, .ref flA, ch_adds, ch_files])), (cat, .inl (cI, 38000, .inl Z.ca)), (cfA, .inl (cI, 38000, .inl Z.cf)), (flA, .inl (cI, 38000, .inl Z.fl)), (trA, .inl (cI, 400, .inl (upd rwv ((rlN S yf (lnU S mw yf ii) (S.BH ii) j) + q) (nI ((S.CL (S.FC (S.BH ii) + j)) + q))))), (tsA, .inl (cI, 4000, .inl (upd slv ((S.CL (S.FC (S.BH ii) + j)) + q) (nI ((rlN S yf (lnU S mw yf ii) (S.BH ii) j) + q)))))] := hD
                  refine lv_aload_n hx hb d_Tx_gatherFrom_127 rfl (lv_at hl 0 rfl) ?_
                  refine lv_dup hx hb d_Tx_gatherFrom_128 rfl ?_
                  refine va_get (D := (dC, dI)) (ci := 10) (v := .int (nI ((rlN S yf (lnU S mw yf ii) (S.BH ii) j) + q))) (C := R_Tx) (T := F_Tx) (N := 19) hx hb hts i_Tx hown hK hP 0 rfl rfl 14 (by decide) (hts _ gw_396) (fun _ h9 => h9) rfl d_Tx_gatherFrom_129 ?_
                  refine lv_iconst (v := 1) hx hb d_Tx_gatherFrom_132 (by decide) ?_
                  refine lv_iadd hx hb d_Tx_gatherFrom_133 ?_
                  refine lv_topi (fun x_7 ex_7 => ?_)
                  obtain rfl : x_7 = nI (((rlN S yf (lnU S mw yf ii) (S.BH ii) j) + q) + 1) := by rw [ex_7]; first | done | (exact nI_add _ _)
                  refine va_put (D := (dC, dI)) (ci := 10) (v := .int (nI (((rlN S yf (lnU S mw yf ii) (S.BH ii) j) + q) + 1))) (ty := .int) (C := R_Tx) (T := F_Tx) (N := 19) hx hb hts i_Tx t_Tx t_Tx_ok n_Tx hown hK hP hD hS 0 rfl rfl 14 (by decide) (hts _ gw_396) (fun _ h9 => h9) rfl (by decide +kernel) rfl rfl (Nat.le_of_ble_eq_true rfl) d_Tx_gatherFrom_134 (fun H locs hP hD hS => ?_)
                  have hP : va_P (dC, dI) classes [(h, .inr (10, [tx_order, tx_length, tx_size, tx_unsure, tx_stranded, tx_dead, .ref sk, .ref ch, tx_lines, tx_loaded, tx_version, .int (nI yf), .ref trA, .ref tsA, .int (nI (((rlN S yf (lnU S mw yf ii) (S.BH ii) j) + q) + 1)), tx_reach, tx_deleters, tx_gone, tx_waits])), (sk, .inr (9, [.ref b_y, sk_from, sk_firstDependency, .ref fcA, sk_dependencies, sk_hashes, sk_byHash, sk_leansOn, sk_leantBy, .ref ch, sk_lines, sk_patches])), (b_y, .inl (cB, 290000, .inl S.f)), (fcA, .inl (cI, 502, .inl Z.fc)), (ch, .inr (1, [.ref cat, ch_patch, .ref cfA, .ref flA, ch_adds, ch_files])), (cat, .inl (cI, 38000, .inl Z.ca)), (cfA, .inl (cI, 38000, .inl Z.cf)), (flA, .inl (cI, 38000, .inl Z.fl)), (trA, .inl (cI, 400, .inl (upd rwv ((rlN S yf (lnU S mw yf ii) (S.BH ii) j) + q) (nI ((S.CL (S.FC (S.BH ii) + j)) + q))))), (tsA, .inl (cI, 4000, .inl (upd slv ((S.CL (S.FC (S.BH ii) + j)) + q) (nI ((rlN S yf (lnU S mw yf ii) (S.BH ii) j) + q)))))] H := hP
                  have hD : va_D A [(h, .inr (10, [tx_order, tx_length, tx_size, tx_unsure, tx_stranded, tx_dead, .ref sk, .ref ch, tx_lines, tx_loaded, tx_version, .int (nI yf), .ref trA, .ref tsA, .int (nI (((rlN S yf (lnU S mw yf ii) (S.BH ii) j) + q) + 1)), tx_reach, tx_deleters, tx_gone, tx_waits])), (sk, .inr (9, [.ref b_y, sk_from, sk_firstDependency, .ref fcA, sk_dependencies, sk_hashes, sk_byHash, sk_leansOn, sk_leantBy, .ref ch, sk_lines, sk_patches])), (b_y, .inl (cB, 290000, .inl S.f)), (fcA, .inl (cI, 502, .inl Z.fc)), (ch, .inr (1, [.ref cat, ch_patch, .ref cfA, .ref flA, ch_adds, ch_files])), (cat, .inl (cI, 38000, .inl Z.ca)), (cfA, .inl (cI, 38000, .inl Z.cf)), (flA, .inl (cI, 38000, .inl Z.fl)), (trA, .inl (cI, 400, .inl (upd rwv ((rlN S yf (lnU S mw yf ii) (S.BH ii) j) + q) (nI ((S.CL (S.FC (S.BH ii) + j)) + q))))), (tsA, .inl (cI, 4000, .inl (upd slv ((S.CL (S.FC (S.BH ii) + j)) + q) (nI ((rlN S yf (lnU S mw yf ii) (S.BH ii) j) + q)))))] := hD
                  refine lv_iinc (v := nI (((S.CL (S.FC (S.BH ii) + j)) + q) + 1)) (lv' := [(5, .int (nI (((S.CL (S.FC (S.BH ii) + j)) + q) + 1))), (0, .ref h), (1, .int (nI (S.BH ii))), (2, .int (nI (S.FC (S.BH ii) + j))), (3, .int (nI (S.CL (S.FC (S.BH ii) + j)))), (4, .int (nI ((S.CL (S.FC (S.BH ii) + j)) + (nLn S (S.FC (S.BH ii) + j)))))]) hx hb d_Tx_gatherFrom_137 hl (k := 5) rfl (by exact nI_add _ _) (by decide) rfl (fun ls hl => ?_)
                  refine lv_goto (tgt := 88) hx hb d_Tx_gatherFrom_140 (by decide) ?_
                  exact ih_88 (q + 1) (upd rwv ((rlN S yf (lnU S mw yf ii) (S.BH ii) j) + q) (nI ((S.CL (S.FC (S.BH ii) + j)) + q))) (upd slv ((S.CL (S.FC (S.BH ii) + j)) + q) (nI ((rlN S yf (lnU S mw yf ii) (S.BH ii) j) + q))) _ _ _ (by omega) (by omega) (by rw [show seqL (S.CL (S.FC (S.BH ii) + j)) (q + 1) = seqL (S.CL (S.FC (S.BH ii) + j)) q ++ [(S.CL (S.FC (S.BH ii) + j)) + q] from rfl, ← List.append_assoc, ← hlen]; exact hr1.push _) (by rw [show seqL (S.CL (S.FC (S.BH ii) + j)) (q + 1) = seqL (S.CL (S.FC (S.BH ii) + j)) q ++ [(S.CL (S.FC (S.BH ii) + j)) + q] from rfl, ← List.append_assoc, ← hlen]; exact hr2.push (I.lnew hii (by omega) c_50 (by omega))) hP hD hS (lv_sub hl [1, 2, 3, 4, 5, 0] rfl)
            exact loop_88 _ 0 rwu slu _ _ _ (Nat.lt_succ_self _) (Nat.zero_le _) (by rw [show seqL (S.CL (S.FC (S.BH ii) + j)) 0 = [] from rfl, List.append_nil]; exact ha1) (by rw [show seqL (S.CL (S.FC (S.BH ii) + j)) 0 = [] from rfl, List.append_nil]; exact ha2) (hP.sub [0, 8, 9, 1, 6, 7, 2, 3, 4, 5] rfl) (hD.sub [0, 8, 9, 1, 6, 7, 2, 3, 4, 5] (by decide) rfl) hS (lv_sub hl [3, 4, 5, 2, 1, 0] rfl)
          · have hno : ¬ (S.f (S.CA (S.FC (S.BH ii) + j)) = 2 ∧ S.CF (S.FC (S.BH ii) + j) = yf) := fun z => c_50 z.1
            refine lv_goto (tgt := 143) hx hb d_Tx_gatherFrom_53 (by decide) ?_
            refine lv_iinc (v := nI ((S.FC (S.BH ii) + j) + 1)) (lv' := [(2, .int (nI ((S.FC (S.BH ii) + j) + 1))), (0, .ref h), (1, .int (nI (S.BH ii)))]) hx hb d_Tx_gatherFrom_143 hl (k := 2) rfl (by exact nI_add _ _) (by decide) rfl (fun ls hl => ?_)
            refine lv_goto (tgt := 10) hx hb d_Tx_gatherFrom_146 (by decide) ?_
            have hlq : lnQ S yf (S.BH ii) (j + 1) = lnQ S yf (S.BH ii) j := lnQ_no hno
            rw [show nI (rlN S yf (lnU S mw yf ii) (S.BH ii) j) = nI (rlN S yf (lnU S mw yf ii) (S.BH ii) (j + 1)) from congrArg nI (by unfold rlN; rw [hlq])] at hP hD
            exact ih_10 (j + 1) rwu slu _ _ _ (by omega) (by omega) (by rw [hlq]; exact ha1) (by rw [hlq]; exact ha2) (hP.sub [0, 6, 7, 1, 8, 9, 2, 3, 4, 5] rfl) (hD.sub [0, 6, 7, 1, 8, 9, 2, 3, 4, 5] (by decide) rfl) hS (lv_sub hl [1, 2, 0] rfl)
  exact loop_10 _ 0 rw9 sl _ _ _ (Nat.lt_succ_self _) (Nat.zero_le _) (by rw [show lnQ S yf (S.BH ii) 0 = [] from rfl, List.append_nil]; exact hA1) (by rw [show lnQ S yf (S.BH ii) 0 = [] from rfl, List.append_nil]; exact hA2) hP hD hS (lv_sub hl [1, 2, 0] rfl)
set_option maxHeartbeats 4000000 in
set_option maxRecDepth 100000 in
/-- the lines of the graph -/
theorem m_Tx_gatherLines (l : Launch) (dC : Nat → ClassId) (dI : Nat → Nat → Nat) (cI cB cL cZ cR : ClassId) (h sk b_y fcA ch cat cfA flA trA tsA bh rr mb : Nat) (tx_order tx_length tx_size tx_unsure tx_stranded tx_dead tx_lines tx_version tx_total tx_reach tx_deleters tx_gone tx_waits sk_from sk_firstDependency sk_dependencies sk_hashes sk_leansOn sk_leantBy sk_lines ch_patch ch_adds ch_files rr_digest rr_size rr_version rr_digestVersion : Value) (Z : StkA) (S : Stk) (mw : Nat → Int64) (rw9 sl : Nat → Int32) (yf : Nat) (sz : Nat) (I : sInv S) (R : rep S Z) (hyf : yf < 40000) : Met l y_Tx_gatherLines ws_Tx_gatherLines ({ frames := 3, cells := 0, slots := 0, locals := 160 }) (xw_Pc dC dI [(cI, .int), (cB, .byte), (cL, .long), (cZ, .boolean), (cR, .object "PatchStore$Repository")] [.ref h] [(h, .inr (10, [tx_order, tx_length, tx_size, tx_unsure, tx_stranded, tx_dead, .ref sk, .ref ch, tx_lines, .ref rr, tx_version, .int (nI yf), .ref trA, .ref tsA, tx_total, tx_reach, tx_deleters, tx_gone, tx_waits])), (sk, .inr (9, [.ref b_y, sk_from, sk_firstDependency, .ref fcA, sk_dependencies, sk_hashes, .ref bh, sk_leansOn, sk_leantBy, .ref ch, sk_lines, .int (nI S.P)])), (b_y, .inl (cB, 290000, .inl S.f)), (fcA, .inl (cI, 502, .inl Z.fc)), (ch, .inr (1, [.ref cat, ch_patch, .ref cfA, .ref flA, ch_adds, ch_files])), (cat, .inl (cI, 38000, .inl Z.ca)), (cfA, .inl (cI, 38000, .inl Z.cf)), (flA, .inl (cI, 38000, .inl Z.fl)), (trA, .inl (cI, 400, .inl rw9)), (tsA, .inl (cI, 4000, .inl sl)), (bh, .inl (cI, 500, .inl Z.bh)), (rr, .inr (7, [.ref mb, rr_digest, rr_size, rr_version, rr_digestVersion])), (mb, .inl (cL, 8, .inr (.inl mw)))] sz) (va_Qv (fun u : (Nat → Int32) × (Nat → Int32) => arrL u.1 (rowL S mw yf) ∧ slR u.2 (rowL S mw yf)) (fun u t => xw_B dC dI [(cI, .int), (cB, .byte), (cL, .long), (cZ, .boolean), (cR, .object "PatchStore$Repository")] (va_A [(h, .inr (10, [tx_order, tx_length, tx_size, tx_unsure, tx_stranded, tx_dead, .ref sk, .ref ch, tx_lines, .ref rr, tx_version, .int (nI yf), .ref trA, .ref tsA, tx_total, tx_reach, tx_deleters, tx_gone, tx_waits])), (sk, .inr (9, [.ref b_y, sk_from, sk_firstDependency, .ref fcA, sk_dependencies, sk_hashes, .ref bh, sk_leansOn, sk_leantBy, .ref ch, sk_lines, .int (nI S.P)])), (b_y, .inl (cB, 290000, .inl S.f)), (fcA, .inl (cI, 502, .inl Z.fc)), (ch, .inr (1, [.ref cat, ch_patch, .ref cfA, .ref flA, ch_adds, ch_files])), (cat, .inl (cI, 38000, .inl Z.ca)), (cfA, .inl (cI, 38000, .inl Z.cf)), (flA, .inl (cI, 38000, .inl Z.fl)), (trA, .inl (cI, 400, .inl rw9)), (tsA, .inl (cI, 4000, .inl sl)), (bh, .inl (cI, 500, .inl Z.bh)), (rr, .inr (7, [.ref mb, rr_digest, rr_size, rr_version, rr_digestVersion])), (mb, .inl (cL, 8, .inr (.inl mw)))] sz) [(h, .inr (10, [tx_order, tx_length, tx_size, tx_unsure, tx_stranded, tx_dead, .ref sk, .ref ch, tx_lines, .ref rr, tx_version, .int (nI yf), .ref trA, .ref tsA, .int (nI (lnUN S mw yf S.P)), tx_reach, tx_deleters, tx_gone, tx_waits])), (sk, .inr (9, [.ref b_y, sk_from, sk_firstDependency, .ref fcA, sk_dependencies, sk_hashes, .ref bh, sk_leansOn, sk_leantBy, .ref ch, sk_lines, .int (nI S.P)])), (b_y, .inl (cB, 290000, .inl S.f)), (fcA, .inl (cI, 502, .inl Z.fc)), (ch, .inr (1, [.ref cat, ch_patch, .ref cfA, .ref flA, ch_adds, ch_files])), (cat, .inl (cI, 38000, .inl Z.ca)), (cfA, .inl (cI, 38000, .inl Z.cf)), (flA, .inl (cI, 38000, .inl Z.fl)), (trA, .inl (cI, 400, .inl u.1)), (tsA, .inl (cI, 4000, .inl u.2)), (bh, .inl (cI, 500, .inl Z.bh)), (rr, .inr (7, [.ref mb, rr_digest, rr_size, rr_version, rr_digestVersion])), (mb, .inl (cL, 8, .inr (.inl mw)))] t) (va_A [(h, .inr (10, [tx_order, tx_length, tx_size, tx_unsure, tx_stranded, tx_dead, .ref sk, .ref ch, tx_lines, .ref rr, tx_version, .int (nI yf), .ref trA, .ref tsA, tx_total, tx_reach, tx_deleters, tx_gone, tx_waits])), (sk, .inr (9, [.ref b_y, sk_from, sk_firstDependency, .ref fcA, sk_dependencies, sk_hashes, .ref bh, sk_leansOn, sk_leantBy, .ref ch, sk_lines, .int (nI S.P)])), (b_y, .inl (cB, 290000, .inl S.f)), (fcA, .inl (cI, 502, .inl Z.fc)), (ch, .inr (1, [.ref cat, ch_patch, .ref cfA, .ref flA, ch_adds, ch_files])), (cat, .inl (cI, 38000, .inl Z.ca)), (cfA, .inl (cI, 38000, .inl Z.cf)), (flA, .inl (cI, 38000, .inl Z.fl)), (trA, .inl (cI, 400, .inl rw9)), (tsA, .inl (cI, 4000, .inl sl)), (bh, .inl (cI, 500, .inl Z.bh)), (rr, .inr (7, [.ref mb, rr_digest, rr_size, rr_version, rr_digestVersion])), (mb, .inl (cL, 8, .inr (.inl mw)))] sz)) 0 0 (va_A [(h, .inr (10, [tx_order, tx_length, tx_size, tx_unsure, tx_stranded, tx_dead, .ref sk, .ref ch, tx_lines, .ref rr, tx_version, .int (nI yf), .ref trA, .ref tsA, tx_total, tx_reach, tx_deleters, tx_gone, tx_waits])), (sk, .inr (9, [.ref b_y, sk_from, sk_firstDependency, .ref fcA, sk_dependencies, sk_hashes, .ref bh, sk_leansOn, sk_leantBy, .ref ch, sk_lines, .int (nI S.P)])), (b_y, .inl (cB, 290000, .inl S.f)), (fcA, .inl (cI, 502, .inl Z.fc)), (ch, .inr (1, [.ref cat, ch_patch, .ref cfA, .ref flA, ch_adds, ch_files])), (cat, .inl (cI, 38000, .inl Z.ca)), (cfA, .inl (cI, 38000, .inl Z.cf)), (flA, .inl (cI, 38000, .inl Z.fl)), (trA, .inl (cI, 400, .inl rw9)), (tsA, .inl (cI, 4000, .inl sl)), (bh, .inl (cI, 500, .inl Z.bh)), (rr, .inr (7, [.ref mb, rr_digest, rr_size, rr_version, rr_digestVersion])), (mb, .inl (cL, 8, .inr (.inl mw)))] sz) := by
  refine Met.ofW (cc := prog_11_method_4_code) (maxL := 3) (ret := none) (by decide) rfl ?_
  intro p e s m args below meth c s₁ B hml hv
  obtain ⟨rfl, hsz, hP, hK, hD0⟩ := hv
  have hx := B.exec
  have hb := B.bytes
  have hr := B.returns
  have hts0 := atoms_spec (ws := ws_Tx_gatherLines) B.pre
  have hts : ∀ w ∈ xg_1, w.before _ s = true := fun w h => hts0 w (List.mem_cons_of_mem _ h)
  have hown : s.vm.findClass "PatchStore$Text" = some m.cls := findClass_of_methodNamed B.named
  have hlocks := B.notSynchronized
  subst hsz
  have hD := hD0.self (sz := s.heap.size)
  generalize hAe : va_A [(h, .inr (10, [tx_order, tx_length, tx_size, tx_unsure, tx_stranded, tx_dead, .ref sk, .ref ch, tx_lines, .ref rr, tx_version, .int (nI yf), .ref trA, .ref tsA, tx_total, tx_reach, tx_deleters, tx_gone, tx_waits])), (sk, .inr (9, [.ref b_y, sk_from, sk_firstDependency, .ref fcA, sk_dependencies, sk_hashes, .ref bh, sk_leansOn, sk_leantBy, .ref ch, sk_lines, .int (nI S.P)])), (b_y, .inl (cB, 290000, .inl S.f)), (fcA, .inl (cI, 502, .inl Z.fc)), (ch, .inr (1, [.ref cat, ch_patch, .ref cfA, .ref flA, ch_adds, ch_files])), (cat, .inl (cI, 38000, .inl Z.ca)), (cfA, .inl (cI, 38000, .inl Z.cf)), (flA, .inl (cI, 38000, .inl Z.fl)), (trA, .inl (cI, 400, .inl rw9)), (tsA, .inl (cI, 4000, .inl sl)), (bh, .inl (cI, 500, .inl Z.bh)), (rr, .inr (7, [.ref mb, rr_digest, rr_size, rr_version, rr_digestVersion])), (mb, .inl (cL, 8, .inr (.inl mw)))] s.heap.size = A at hD ⊢
  have hA : ∀ q : Nat, s.heap.size ≤ q → A q := fun q h => by rw [← hAe]; exact Or.inr h
  have hS : va_S A s.heap s.heap [] := va_S.rf
  have hl := lv_entry ([.ref h]) (n := 3) (Nat.le_of_ble_eq_true rfl)
  rw [lg_entry_eq]
  generalize (lg_sl ([.ref h]) ++ List.replicate (3 - (lg_sl ([.ref h])).length) Slot.unset).toArray = ls at hl ⊢
  have hl : lv_has ls 3 [(0, .ref h)] := hl
  generalize hQe : MQ _ _ _ _ _ _ _ = Q
  have hb6 := I.hP
  refine lv_aload_n hx hb d_Tx_gatherLines_0 rfl (lv_at hl 0 rfl) ?_
  refine lv_iconst (v := 0) hx hb d_Tx_gatherLines_1 (by decide) ?_
  refine va_put (D := (dC, dI)) (ci := 10) (v := .int 0) (ty := .int) (C := R_Tx) (T := F_Tx) (N := 19) hx hb hts i_Tx t_Tx t_Tx_ok n_Tx hown hK hP hD hS 0 rfl rfl 14 (by decide) (hts _ gw_396) (fun _ h9 => h9) rfl (by decide +kernel) rfl rfl (Nat.le_of_ble_eq_true rfl) d_Tx_gatherLines_2 (fun H locs hP hD hS => ?_)
  have hP : va_P (dC, dI) classes [(h, .inr (10, [tx_order, tx_length, tx_size, tx_unsure, tx_stranded, tx_dead, .ref sk, .ref ch, tx_lines, .ref rr, tx_version, .int (nI yf), .ref trA, .ref tsA, .int 0, tx_reach, tx_deleters, tx_gone, tx_waits])), (sk, .inr (9, [.ref b_y, sk_from, sk_firstDependency, .ref fcA, sk_dependencies, sk_hashes, .ref bh, sk_leansOn, sk_leantBy, .ref ch, sk_lines, .int (nI S.P)])), (b_y, .inl (cB, 290000, .inl S.f)), (fcA, .inl (cI, 502, .inl Z.fc)), (ch, .inr (1, [.ref cat, ch_patch, .ref cfA, .ref flA, ch_adds, ch_files])), (cat, .inl (cI, 38000, .inl Z.ca)), (cfA, .inl (cI, 38000, .inl Z.cf)), (flA, .inl (cI, 38000, .inl Z.fl)), (trA, .inl (cI, 400, .inl rw9)), (tsA, .inl (cI, 4000, .inl sl)), (bh, .inl (cI, 500, .inl Z.bh)), (rr, .inr (7, [.ref mb, rr_digest, rr_size, rr_version, rr_digestVersion])), (mb, .inl (cL, 8, .inr (.inl mw)))] H := hP
  have hD : va_D A [(h, .inr (10, [tx_order, tx_length, tx_size, tx_unsure, tx_stranded, tx_dead, .ref sk, .ref ch, tx_lines, .ref rr, tx_version, .int (nI yf), .ref trA, .ref tsA, .int 0, tx_reach, tx_deleters, tx_gone, tx_waits])), (sk, .inr (9, [.ref b_y, sk_from, sk_firstDependency, .ref fcA, sk_dependencies, sk_hashes, .ref bh, sk_leansOn, sk_leantBy, .ref ch, sk_lines, .int (nI S.P)])), (b_y, .inl (cB, 290000, .inl S.f)), (fcA, .inl (cI, 502, .inl Z.fc)), (ch, .inr (1, [.ref cat, ch_patch, .ref cfA, .ref flA, ch_adds, ch_files])), (cat, .inl (cI, 38000, .inl Z.ca)), (cfA, .inl (cI, 38000, .inl Z.cf)), (flA, .inl (cI, 38000, .inl Z.fl)), (trA, .inl (cI, 400, .inl rw9)), (tsA, .inl (cI, 4000, .inl sl)), (bh, .inl (cI, 500, .inl Z.bh)), (rr, .inr (7, [.ref mb, rr_digest, rr_size, rr_version, rr_digestVersion])), (mb, .inl (cL, 8, .inr (.inl mw)))] := hD
  refine lv_iconst (v := 0) hx hb d_Tx_gatherLines_5 (by decide) ?_
  refine lv_istore_n (lv' := [(1, .int 0), (0, .ref h)]) hx hb d_Tx_gatherLines_6 rfl hl (by decide) rfl (fun ls hl => ?_)
  have loop_7 : ∀ (n9 : Nat) (i : Nat) (rwu : Nat → Int32) (slu : Nat → Int32) (H : Heap) (locs : List Loc) (ls : Array Slot), S.P - i < n9 → (i ≤ S.P) → (arrL rwu (lnU S mw yf i)) → (slR slu (lnU S mw yf i)) → va_P (dC, dI) classes [(h, .inr (10, [tx_order, tx_length, tx_size, tx_unsure, tx_stranded, tx_dead, .ref sk, .ref ch, tx_lines, .ref rr, tx_version, .int (nI yf), .ref trA, .ref tsA, .int (nI (lnUN S mw yf i)), tx_reach, tx_deleters, tx_gone, tx_waits])), (sk, .inr (9, [.ref b_y, sk_from, sk_firstDependency, .ref fcA, sk_dependencies, sk_hashes, .ref bh, sk_leansOn, sk_leantBy, .ref ch, sk_lines, .int (nI S.P)])), (b_y, .inl (cB, 290000, .inl S.f)), (fcA, .inl (cI, 502, .inl Z.fc)), (ch, .inr (1, [.ref cat, ch_patch, .ref cfA, .ref flA, ch_adds, ch_files])), (cat, .inl (cI, 38000, .inl Z.ca)), (cfA, .inl (cI, 38000, .inl Z.cf)), (flA, .inl (cI, 38000, .inl Z.fl)), (trA, .inl (cI, 400, .inl rwu)), (tsA, .inl (cI, 4000, .inl slu)), (bh, .inl (cI, 500, .inl Z.bh)), (rr, .inr (7, [.ref mb, rr_digest, rr_size, rr_version, rr_digestVersion])), (mb, .inl (cL, 8, .inr (.inl mw)))] H → va_D A [(h, .inr (10, [tx_order, tx_length, tx_size, tx_unsure, tx_stranded, tx_dead, .ref sk, .ref ch, tx_lines, .ref rr, tx_version, .int (nI yf), .ref trA, .ref tsA, .int (nI (lnUN S mw yf i)), tx_reach, tx_deleters, tx_gone, tx_waits])), (sk, .inr (9, [.ref b_y, sk_from, sk_firstDependency, .ref fcA, sk_dependencies, sk_hashes, .ref bh, sk_leansOn, sk_leantBy, .ref ch, sk_lines, .int (nI S.P)])), (b_y, .inl (cB, 290000, .inl S.f)), (fcA, .inl (cI, 502, .inl Z.fc)), (ch, .inr (1, [.ref cat, ch_patch, .ref cfA, .ref flA, ch_adds, ch_files])), (cat, .inl (cI, 38000, .inl Z.ca)), (cfA, .inl (cI, 38000, .inl Z.cf)), (flA, .inl (cI, 38000, .inl Z.fl)), (trA, .inl (cI, 400, .inl rwu)), (tsA, .inl (cI, 4000, .inl slu)), (bh, .inl (cI, 500, .inl Z.bh)), (rr, .inr (7, [.ref mb, rr_digest, rr_size, rr_version, rr_digestVersion])), (mb, .inl (cL, 8, .inr (.inl mw)))] → va_S A s.heap H locs → lv_has ls 3 [(0, .ref h), (1, .int (nI i))] → W p l e (headSpec ws_Tx_gatherLines ({ frames := 3, cells := 0, slots := 0, locals := 160 })).room s m ([.ref h] : List Value).toArray below meth c H locs 0 0 Q (F0 m 7 ls []) := by
    intro n9
    induction n9 with
    | zero => intro i rwu slu H locs ls hm; exact absurd hm (Nat.not_lt_zero _)
    | succ n9 ih_7 =>
      intro i rwu slu H locs ls hm hi ha1 ha2 hP hD hS hl
      refine lv_iload_n hx hb d_Tx_gatherLines_7 rfl (lv_at hl 1 rfl) ?_
      refine lv_aload_n hx hb d_Tx_gatherLines_8 rfl (lv_at hl 0 rfl) ?_
      refine va_get (D := (dC, dI)) (ci := 10) (v := .ref sk) (C := R_Tx) (T := F_Tx) (N := 19) hx hb hts i_Tx hown hK hP 0 rfl rfl 6 (by decide) (hts _ gw_388) (fun _ h9 => h9) rfl d_Tx_gatherLines_9 ?_
      refine va_get (D := (dC, dI)) (ci := 9) (v := .int (nI S.P)) (C := R_St) (T := F_St) (N := 12) hx hb hts i_St hown hK hP 1 rfl rfl 11 (by decide) (hts _ gw_237) (fun _ h9 => h9) rfl d_Tx_gatherLines_12 ?_
      refine lv_icmp_ge (tgt := 50) hx hb d_Tx_gatherLines_15 (by decide) (fun c_15 => ?_) (fun c_15 => ?_)
      · have n_15 : S.P ≤ i := (nI_leI (a := S.P) (b := i) (by omega) (by omega)).mp c_15
        have hiT : i = S.P := by omega
        rw [hiT] at hP hD ha1 ha2
        rw [← hQe]
        exact W.vret hx hb hr (fun t ht hW => ⟨⟨(rwu, slu), rfl, ⟨ha1, ha2⟩, by rw [ht]; exact hP, va_K.moved hW.alike hK, hD⟩, hS.F ht⟩) hS.2.2 d_Tx_gatherLines_50
      · have n_15 : i < S.P := Nat.lt_of_not_le (fun z => c_15 ((nI_leI (a := S.P) (b := i) (by omega) (by omega)).mpr z))
        have hbi := I.bh i n_15
        refine lv_aload_n hx hb d_Tx_gatherLines_18 rfl (lv_at hl 0 rfl) ?_
        refine va_get (D := (dC, dI)) (ci := 10) (v := .ref sk) (C := R_Tx) (T := F_Tx) (N := 19) hx hb hts i_Tx hown hK hP 0 rfl rfl 6 (by decide) (hts _ gw_388) (fun _ h9 => h9) rfl d_Tx_gatherLines_19 ?_
        refine va_get (D := (dC, dI)) (ci := 9) (v := .ref bh) (C := R_St) (T := F_St) (N := 12) hx hb hts i_St hown hK hP 1 rfl rfl 6 (by decide) (hts _ gw_211) (fun _ h9 => h9) rfl d_Tx_gatherLines_22 ?_
        refine lv_iload_n hx hb d_Tx_gatherLines_25 rfl (lv_at hl 1 rfl) ?_
        refine va_iald hx hb hK hP 10 0 rfl rfl (vp_in_nI (by omega) (by omega)) d_Tx_gatherLines_26 ?_
        rw [show (nI i).toNatClampNeg = i from nI_clamp (by omega)]
        refine lv_topi (fun x_1 ex_1 => ?_)
        obtain rfl : x_1 = nI (S.BH i) := by rw [ex_1]; first | done | (exact R.bh i n_15)
        refine lv_istore_n (lv' := [(2, .int (nI (S.BH i))), (0, .ref h), (1, .int (nI i))]) hx hb d_Tx_gatherLines_27 rfl hl (by decide) rfl (fun ls hl => ?_)
        refine lv_aload_n hx hb d_Tx_gatherLines_28 rfl (lv_at hl 1 rfl) ?_
        refine va_get (D := (dC, dI)) (ci := 10) (v := .ref rr) (C := R_Tx) (T := F_Tx) (N := 19) hx hb hts i_Tx hown hK hP 0 rfl rfl 9 (by decide) (hts _ gw_391) (fun _ h9 => h9) rfl d_Tx_gatherLines_29 ?_
        refine lv_iload_n hx hb d_Tx_gatherLines_32 rfl (lv_at hl 0 rfl) ?_
        have hPc := hP.sub (ws' := [(rr, .inr (7, [.ref mb, rr_digest, rr_size, rr_version, rr_digestVersion])), (mb, .inl (cL, 8, .inr (.inl mw)))]) [11, 12] rfl
        have hDc := hD.sub (ws' := [(rr, .inr (7, [.ref mb, rr_digest, rr_size, rr_version, rr_digestVersion])), (mb, .inl (cL, 8, .inr (.inl mw)))]) [11, 12] (by decide) rfl
        have hFc := va_free (wc := [(rr, .inr (7, [.ref mb, rr_digest, rr_size, rr_version, rr_digestVersion])), (mb, .inl (cL, 8, .inr (.inl mw)))]) hD hS hA [11, 12] rfl
        refine va_calli (va_runV (As := [.int (nI (S.BH i))]) (rest := []) ⟨hx, hb, hml, hown, hts⟩ (m_Re_holds l dC dI cI cB cL cZ cR rr mb (rr_digest) (rr_size) (rr_version) (rr_digestVersion) mw (nI (S.BH i)) H.size ) (cwV 1 hts (xg_V gw_1052 gw_826 gw_827 gw_12 gw_828) rfl rfl rfl (by decide +kernel) ⟨Nat.le_of_ble_eq_true rfl, Nat.le_of_ble_eq_true rfl⟩) ⟨xw_blind, va_recv hK hPc (ci := 7) (q0 := 0) rfl rfl, fun U hU hW => ⟨rfl, by rw [hU], by rw [hU]; exact hPc, va_K.moved hW.alike hK, hDc.weaken (fun _ _ _ _ => trivial)⟩⟩ rfl rfl hl.1 rfl (lv_room (Nat.le_of_ble_eq_true rfl)) d_Tx_gatherLines_33 ⟨Nat.le_of_ble_eq_true rfl, Nat.le_of_ble_eq_true rfl⟩) hS (fun q _ h => hFc q h) hFc (fun r9 u t H1 locs ht hvm hw hB hz1 hk1 hS => ?_)
        obtain ⟨hP1, hK1, hD1⟩ := hB
        rw [ht] at hP1
        obtain ⟨hP, hD⟩ := va_join (wr := [(h, .inr (10, [tx_order, tx_length, tx_size, tx_unsure, tx_stranded, tx_dead, .ref sk, .ref ch, tx_lines, .ref rr, tx_version, .int (nI yf), .ref trA, .ref tsA, .int (nI (lnUN S mw yf i)), tx_reach, tx_deleters, tx_gone, tx_waits])), (sk, .inr (9, [.ref b_y, sk_from, sk_firstDependency, .ref fcA, sk_dependencies, sk_hashes, .ref bh, sk_leansOn, sk_leantBy, .ref ch, sk_lines, .int (nI S.P)])), (b_y, .inl (cB, 290000, .inl S.f)), (fcA, .inl (cI, 502, .inl Z.fc)), (ch, .inr (1, [.ref cat, ch_patch, .ref cfA, .ref flA, ch_adds, ch_files])), (cat, .inl (cI, 38000, .inl Z.ca)), (cfA, .inl (cI, 38000, .inl Z.cf)), (flA, .inl (cI, 38000, .inl Z.fl)), (trA, .inl (cI, 400, .inl rwu)), (tsA, .inl (cI, 4000, .inl slu)), (bh, .inl (cI, 500, .inl Z.bh))]) (w1 := [(rr, .inr (7, [.ref mb, rr_digest, rr_size, rr_version, rr_digestVersion])), (mb, .inl (cL, 8, .inr (.inl mw)))]) hP hD [11, 12] [0, 1, 2, 3, 4, 5, 6, 7, 8, 9, 10] rfl rfl (by decide) (by decide) hk1 hFc hP1 hD1
        generalize H1 = H at hP hS ⊢
        have hP : va_P (dC, dI) classes [(h, .inr (10, [tx_order, tx_length, tx_size, tx_unsure, tx_stranded, tx_dead, .ref sk, .ref ch, tx_lines, .ref rr, tx_version, .int (nI yf), .ref trA, .ref tsA, .int (nI (lnUN S mw yf i)), tx_reach, tx_deleters, tx_gone, tx_waits])), (sk, .inr (9, [.ref b_y, sk_from, sk_firstDependency, .ref fcA, sk_dependencies, sk_hashes, .ref bh, sk_leansOn, sk_leantBy, .ref ch, sk_lines, .int (nI S.P)])), (b_y, .inl (cB, 290000, .inl S.f)), (fcA, .inl (cI, 502, .inl Z.fc)), (ch, .inr (1, [.ref cat, ch_patch, .ref cfA, .ref flA, ch_adds, ch_files])), (cat, .inl (cI, 38000, .inl Z.ca)), (cfA, .inl (cI, 38000, .inl Z.cf)), (flA, .inl (cI, 38000, .inl Z.fl)), (trA, .inl (cI, 400, .inl rwu)), (tsA, .inl (cI, 4000, .inl slu)), (bh, .inl (cI, 500, .inl Z.bh)), (rr, .inr (7, [.ref mb, rr_digest, rr_size, rr_version, rr_digestVersion])), (mb, .inl (cL, 8, .inr (.inl mw)))] H := hP
        have hD : va_D A [(h, .inr (10, [tx_order, tx_length, tx_size, tx_unsure, tx_stranded, tx_dead, .ref sk, .ref ch, tx_lines, .ref rr, tx_version, .int (nI yf), .ref trA, .ref tsA, .int (nI (lnUN S mw yf i)), tx_reach, tx_deleters, tx_gone, tx_waits])), (sk, .inr (9, [.ref b_y, sk_from, sk_firstDependency, .ref fcA, sk_dependencies, sk_hashes, .ref bh, sk_leansOn, sk_leantBy, .ref ch, sk_lines, .int (nI S.P)])), (b_y, .inl (cB, 290000, .inl S.f)), (fcA, .inl (cI, 502, .inl Z.fc)), (ch, .inr (1, [.ref cat, ch_patch, .ref cfA, .ref flA, ch_adds, ch_files])), (cat, .inl (cI, 38000, .inl Z.ca)), (cfA, .inl (cI, 38000, .inl Z.cf)), (flA, .inl (cI, 38000, .inl Z.fl)), (trA, .inl (cI, 400, .inl rwu)), (tsA, .inl (cI, 4000, .inl slu)), (bh, .inl (cI, 500, .inl Z.bh)), (rr, .inr (7, [.ref mb, rr_digest, rr_size, rr_version, rr_digestVersion])), (mb, .inl (cL, 8, .inr (.inl mw)))] := hD
        rcases hw with ⟨rfl, hh⟩ | ⟨rfl, hh⟩
        · have hP : va_P (dC, dI) classes [(h, .inr (10, [tx_order, tx_length, tx_size, tx_unsure, tx_stranded, tx_dead, .ref sk, .ref ch, tx_lines, .ref rr, tx_version, .int (nI yf), .ref trA, .ref tsA, .int (nI (lnUN S mw yf i)), tx_reach, tx_deleters, tx_gone, tx_waits])), (sk, .inr (9, [.ref b_y, sk_from, sk_firstDependency, .ref fcA, sk_dependencies, sk_hashes, .ref bh, sk_leansOn, sk_leantBy, .ref ch, sk_lines, .int (nI S.P)])), (b_y, .inl (cB, 290000, .inl S.f)), (fcA, .inl (cI, 502, .inl Z.fc)), (ch, .inr (1, [.ref cat, ch_patch, .ref cfA, .ref flA, ch_adds, ch_files])), (cat, .inl (cI, 38000, .inl Z.ca)), (cfA, .inl (cI, 38000, .inl Z.cf)), (flA, .inl (cI, 38000, .inl Z.fl)), (trA, .inl (cI, 400, .inl rwu)), (tsA, .inl (cI, 4000, .inl slu)), (bh, .inl (cI, 500, .inl Z.bh)), (rr, .inr (7, [.ref mb, rr_digest, rr_size, rr_version, rr_digestVersion])), (mb, .inl (cL, 8, .inr (.inl mw)))] H := hP
          have hD : va_D A [(h, .inr (10, [tx_order, tx_length, tx_size, tx_unsure, tx_stranded, tx_dead, .ref sk, .ref ch, tx_lines, .ref rr, tx_version, .int (nI yf), .ref trA, .ref tsA, .int (nI (lnUN S mw yf i)), tx_reach, tx_deleters, tx_gone, tx_waits])), (sk, .inr (9, [.ref b_y, sk_from, sk_firstDependency, .ref fcA, sk_dependencies, sk_hashes, .ref bh, sk_leansOn, sk_leantBy, .ref ch, sk_lines, .int (nI S.P)])), (b_y, .inl (cB, 290000, .inl S.f)), (fcA, .inl (cI, 502, .inl Z.fc)), (ch, .inr (1, [.ref cat, ch_patch, .ref cfA, .ref flA, ch_adds, ch_files])), (cat, .inl (cI, 38000, .inl Z.ca)), (cfA, .inl (cI, 38000, .inl Z.cf)), (flA, .inl (cI, 38000, .inl Z.fl)), (trA, .inl (cI, 400, .inl rwu)), (tsA, .inl (cI, 4000, .inl slu)), (bh, .inl (cI, 500, .inl Z.bh)), (rr, .inr (7, [.ref mb, rr_digest, rr_size, rr_version, rr_digestVersion])), (mb, .inl (cL, 8, .inr (.inl mw)))] := hD
          have hbt : bt mw (S.BH i) = true := (re_ok_bt (by omega)).mp hh
          refine lv_if_eq (tgt := 44) hx hb d_Tx_gatherLines_36 (by decide) (fun c_36 => absurd c_36 (by decide)) (fun _ => ?_)
          refine lv_aload_n hx hb d_Tx_gatherLines_39 rfl (lv_at hl 1 rfl) ?_
          refine lv_iload_n hx hb d_Tx_gatherLines_40 rfl (lv_at hl 0 rfl) ?_
          have hPc := hP.sub (ws' := [(h, .inr (10, [tx_order, tx_length, tx_size, tx_unsure, tx_stranded, tx_dead, .ref sk, .ref ch, tx_lines, .ref rr, tx_version, .int (nI yf), .ref trA, .ref tsA, .int (nI (lnUN S mw yf i)), tx_reach, tx_deleters, tx_gone, tx_waits])), (sk, .inr (9, [.ref b_y, sk_from, sk_firstDependency, .ref fcA, sk_dependencies, sk_hashes, .ref bh, sk_leansOn, sk_leantBy, .ref ch, sk_lines, .int (nI S.P)])), (b_y, .inl (cB, 290000, .inl S.f)), (fcA, .inl (cI, 502, .inl Z.fc)), (ch, .inr (1, [.ref cat, ch_patch, .ref cfA, .ref flA, ch_adds, ch_files])), (cat, .inl (cI, 38000, .inl Z.ca)), (cfA, .inl (cI, 38000, .inl Z.cf)), (flA, .inl (cI, 38000, .inl Z.fl)), (trA, .inl (cI, 400, .inl rwu)), (tsA, .inl (cI, 4000, .inl slu))]) [0, 1, 2, 3, 4, 5, 6, 7, 8, 9] rfl
          have hDc := hD.sub (ws' := [(h, .inr (10, [tx_order, tx_length, tx_size, tx_unsure, tx_stranded, tx_dead, .ref sk, .ref ch, tx_lines, .ref rr, tx_version, .int (nI yf), .ref trA, .ref tsA, .int (nI (lnUN S mw yf i)), tx_reach, tx_deleters, tx_gone, tx_waits])), (sk, .inr (9, [.ref b_y, sk_from, sk_firstDependency, .ref fcA, sk_dependencies, sk_hashes, .ref bh, sk_leansOn, sk_leantBy, .ref ch, sk_lines, .int (nI S.P)])), (b_y, .inl (cB, 290000, .inl S.f)), (fcA, .inl (cI, 502, .inl Z.fc)), (ch, .inr (1, [.ref cat, ch_patch, .ref cfA, .ref flA, ch_adds, ch_files])), (cat, .inl (cI, 38000, .inl Z.ca)), (cfA, .inl (cI, 38000, .inl Z.cf)), (flA, .inl (cI, 38000, .inl Z.fl)), (trA, .inl (cI, 400, .inl rwu)), (tsA, .inl (cI, 4000, .inl slu))]) [0, 1, 2, 3, 4, 5, 6, 7, 8, 9] (by decide) rfl
          have hFc := va_free (wc := [(h, .inr (10, [tx_order, tx_length, tx_size, tx_unsure, tx_stranded, tx_dead, .ref sk, .ref ch, tx_lines, .ref rr, tx_version, .int (nI yf), .ref trA, .ref tsA, .int (nI (lnUN S mw yf i)), tx_reach, tx_deleters, tx_gone, tx_waits])), (sk, .inr (9, [.ref b_y, sk_from, sk_firstDependency, .ref fcA, sk_dependencies, sk_hashes, .ref bh, sk_leansOn, sk_leantBy, .ref ch, sk_lines, .int (nI S.P)])), (b_y, .inl (cB, 290000, .inl S.f)), (fcA, .inl (cI, 502, .inl Z.fc)), (ch, .inr (1, [.ref cat, ch_patch, .ref cfA, .ref flA, ch_adds, ch_files])), (cat, .inl (cI, 38000, .inl Z.ca)), (cfA, .inl (cI, 38000, .inl Z.cf)), (flA, .inl (cI, 38000, .inl Z.fl)), (trA, .inl (cI, 400, .inl rwu)), (tsA, .inl (cI, 4000, .inl slu))]) hD hS hA [0, 1, 2, 3, 4, 5, 6, 7, 8, 9] rfl
          refine va_callv (va_runV (As := [.int (nI (S.BH i))]) (rest := []) ⟨hx, hb, hml, hown, hts⟩ (m_Tx_gatherFrom l dC dI cI cB cL cZ cR h sk b_y fcA ch cat cfA flA trA tsA (tx_order) (tx_length) (tx_size) (tx_unsure) (tx_stranded) (tx_dead) (tx_lines) (.ref rr) (tx_version) (tx_reach) (tx_deleters) (tx_gone) (tx_waits) (sk_from) (sk_firstDependency) (sk_dependencies) (sk_hashes) (.ref bh) (sk_leansOn) (sk_leantBy) (sk_lines) (.int (nI S.P)) (ch_patch) (ch_adds) (ch_files) Z S mw rwu slu yf i H.size I R n_15 hyf ha1 ha2) (cwV 1 hts (xg_V gw_1053 gw_1055 (xg_p 40 (q := (⟨"PatchStore$Text", "gatherFrom", "(I)V"⟩, 19)) (by decide +kernel)) gw_9 gw_1056) rfl rfl rfl (by decide +kernel) ⟨Nat.le_of_ble_eq_true rfl, Nat.le_of_ble_eq_true rfl⟩) ⟨xw_blind, va_recv hK hPc (ci := 10) (q0 := 0) rfl rfl, fun U hU hW => ⟨rfl, by rw [hU], by rw [hU]; exact hPc, va_K.moved hW.alike hK, hDc.weaken (fun _ _ _ _ => trivial)⟩⟩ rfl rfl hl.1 rfl (lv_room (Nat.le_of_ble_eq_true rfl)) d_Tx_gatherLines_41 ⟨Nat.le_of_ble_eq_true rfl, Nat.le_of_ble_eq_true rfl⟩) hS (fun q _ h => hFc q h) hFc (fun rw8 t H1 locs ht hvm hw hB hz1 hk1 hS => ?_)
          obtain ⟨rw8, sl8⟩ := rw8
          obtain ⟨hg1, hg2⟩ := hw
          dsimp only at hg1 hg2
          obtain ⟨hP1, hK1, hD1⟩ := hB
          rw [ht] at hP1
          obtain ⟨hP, hD⟩ := va_join (wr := [(bh, .inl (cI, 500, .inl Z.bh)), (rr, .inr (7, [.ref mb, rr_digest, rr_size, rr_version, rr_digestVersion])), (mb, .inl (cL, 8, .inr (.inl mw)))]) (w1 := [(h, .inr (10, [tx_order, tx_length, tx_size, tx_unsure, tx_stranded, tx_dead, .ref sk, .ref ch, tx_lines, .ref rr, tx_version, .int (nI yf), .ref trA, .ref tsA, .int (nI (rlN S yf (lnU S mw yf i) (S.BH i) (S.nT (S.BH i)))), tx_reach, tx_deleters, tx_gone, tx_waits])), (sk, .inr (9, [.ref b_y, sk_from, sk_firstDependency, .ref fcA, sk_dependencies, sk_hashes, .ref bh, sk_leansOn, sk_leantBy, .ref ch, sk_lines, .int (nI S.P)])), (b_y, .inl (cB, 290000, .inl S.f)), (fcA, .inl (cI, 502, .inl Z.fc)), (ch, .inr (1, [.ref cat, ch_patch, .ref cfA, .ref flA, ch_adds, ch_files])), (cat, .inl (cI, 38000, .inl Z.ca)), (cfA, .inl (cI, 38000, .inl Z.cf)), (flA, .inl (cI, 38000, .inl Z.fl)), (trA, .inl (cI, 400, .inl rw8)), (tsA, .inl (cI, 4000, .inl sl8))]) hP hD [0, 1, 2, 3, 4, 5, 6, 7, 8, 9] [10, 11, 12] rfl rfl (by decide) (by decide) hk1 hFc hP1 hD1
          generalize H1 = H at hP hS ⊢
          have hP : va_P (dC, dI) classes [(bh, .inl (cI, 500, .inl Z.bh)), (rr, .inr (7, [.ref mb, rr_digest, rr_size, rr_version, rr_digestVersion])), (mb, .inl (cL, 8, .inr (.inl mw))), (h, .inr (10, [tx_order, tx_length, tx_size, tx_unsure, tx_stranded, tx_dead, .ref sk, .ref ch, tx_lines, .ref rr, tx_version, .int (nI yf), .ref trA, .ref tsA, .int (nI (rlN S yf (lnU S mw yf i) (S.BH i) (S.nT (S.BH i)))), tx_reach, tx_deleters, tx_gone, tx_waits])), (sk, .inr (9, [.ref b_y, sk_from, sk_firstDependency, .ref fcA, sk_dependencies, sk_hashes, .ref bh, sk_leansOn, sk_leantBy, .ref ch, sk_lines, .int (nI S.P)])), (b_y, .inl (cB, 290000, .inl S.f)), (fcA, .inl (cI, 502, .inl Z.fc)), (ch, .inr (1, [.ref cat, ch_patch, .ref cfA, .ref flA, ch_adds, ch_files])), (cat, .inl (cI, 38000, .inl Z.ca)), (cfA, .inl (cI, 38000, .inl Z.cf)), (flA, .inl (cI, 38000, .inl Z.fl)), (trA, .inl (cI, 400, .inl rw8)), (tsA, .inl (cI, 4000, .inl sl8))] H := hP
          have hD : va_D A [(bh, .inl (cI, 500, .inl Z.bh)), (rr, .inr (7, [.ref mb, rr_digest, rr_size, rr_version, rr_digestVersion])), (mb, .inl (cL, 8, .inr (.inl mw))), (h, .inr (10, [tx_order, tx_length, tx_size, tx_unsure, tx_stranded, tx_dead, .ref sk, .ref ch, tx_lines, .ref rr, tx_version, .int (nI yf), .ref trA, .ref tsA, .int (nI (rlN S yf (lnU S mw yf i) (S.BH i) (S.nT (S.BH i)))), tx_reach, tx_deleters, tx_gone, tx_waits])), (sk, .inr (9, [.ref b_y, sk_from, sk_firstDependency, .ref fcA, sk_dependencies, sk_hashes, .ref bh, sk_leansOn, sk_leantBy, .ref ch, sk_lines, .int (nI S.P)])), (b_y, .inl (cB, 290000, .inl S.f)), (fcA, .inl (cI, 502, .inl Z.fc)), (ch, .inr (1, [.ref cat, ch_patch, .ref cfA, .ref flA, ch_adds, ch_files])), (cat, .inl (cI, 38000, .inl Z.ca)), (cfA, .inl (cI, 38000, .inl Z.cf)), (flA, .inl (cI, 38000, .inl Z.fl)), (trA, .inl (cI, 400, .inl rw8)), (tsA, .inl (cI, 4000, .inl sl8))] := hD
          refine lv_iinc (v := nI (i + 1)) (lv' := [(1, .int (nI (i + 1))), (2, .int (nI (S.BH i))), (0, .ref h)]) hx hb d_Tx_gatherLines_44 hl (k := 2) rfl (by exact nI_add _ _) (by decide) rfl (fun ls hl => ?_)
          refine lv_goto (tgt := 7) hx hb d_Tx_gatherLines_47 (by decide) ?_
          rw [show nI (rlN S yf (lnU S mw yf i) (S.BH i) (S.nT (S.BH i))) = nI (lnUN S mw yf (i + 1)) from congrArg nI (congrArg List.length (lnU_yes hbt))] at hP hD
          exact ih_7 (i + 1) rw8 sl8 _ _ _ (by omega) (by omega) (by rw [← lnU_yes hbt]; exact hg1) (by rw [← lnU_yes hbt]; exact hg2) (hP.sub [3, 4, 5, 6, 7, 8, 9, 10, 11, 12, 0, 1, 2] rfl) (hD.sub [3, 4, 5, 6, 7, 8, 9, 10, 11, 12, 0, 1, 2] (by decide) rfl) hS (lv_sub hl [2, 0] rfl)
        · have hP : va_P (dC, dI) classes [(h, .inr (10, [tx_order, tx_length, tx_size, tx_unsure, tx_stranded, tx_dead, .ref sk, .ref ch, tx_lines, .ref rr, tx_version, .int (nI yf), .ref trA, .ref tsA, .int (nI (lnUN S mw yf i)), tx_reach, tx_deleters, tx_gone, tx_waits])), (sk, .inr (9, [.ref b_y, sk_from, sk_firstDependency, .ref fcA, sk_dependencies, sk_hashes, .ref bh, sk_leansOn, sk_leantBy, .ref ch, sk_lines, .int (nI S.P)])), (b_y, .inl (cB, 290000, .inl S.f)), (fcA, .inl (cI, 502, .inl Z.fc)), (ch, .inr (1, [.ref cat, ch_patch, .ref cfA, .ref flA, ch_adds, ch_files])), (cat, .inl (cI, 38000, .inl Z.ca)), (cfA, .inl (cI, 38000, .inl Z.cf)), (flA, .inl (cI, 38000, .inl Z.fl)), (trA, .inl (cI, 400, .inl rwu)), (tsA, .inl (cI, 4000, .inl slu)), (bh, .inl (cI, 500, .inl Z.bh)), (rr, .inr (7, [.ref mb, rr_digest, rr_size, rr_version, rr_digestVersion])), (mb, .inl (cL, 8, .inr (.inl mw)))] H := hP
          have hD : va_D A [(h, .inr (10, [tx_order, tx_length, tx_size, tx_unsure, tx_stranded, tx_dead, .ref sk, .ref ch, tx_lines, .ref rr, tx_version, .int (nI yf), .ref trA, .ref tsA, .int (nI (lnUN S mw yf i)), tx_reach, tx_deleters, tx_gone, tx_waits])), (sk, .inr (9, [.ref b_y, sk_from, sk_firstDependency, .ref fcA, sk_dependencies, sk_hashes, .ref bh, sk_leansOn, sk_leantBy, .ref ch, sk_lines, .int (nI S.P)])), (b_y, .inl (cB, 290000, .inl S.f)), (fcA, .inl (cI, 502, .inl Z.fc)), (ch, .inr (1, [.ref cat, ch_patch, .ref cfA, .ref flA, ch_adds, ch_files])), (cat, .inl (cI, 38000, .inl Z.ca)), (cfA, .inl (cI, 38000, .inl Z.cf)), (flA, .inl (cI, 38000, .inl Z.fl)), (trA, .inl (cI, 400, .inl rwu)), (tsA, .inl (cI, 4000, .inl slu)), (bh, .inl (cI, 500, .inl Z.bh)), (rr, .inr (7, [.ref mb, rr_digest, rr_size, rr_version, rr_digestVersion])), (mb, .inl (cL, 8, .inr (.inl mw)))] := hD
          have hbt : ¬ bt mw (S.BH i) = true := fun z => hh ((re_ok_bt (by omega)).mpr z)
          refine lv_if_eq (tgt := 44) hx hb d_Tx_gatherLines_36 (by decide) (fun _ => ?_) (fun c_36 => absurd (by decide) c_36)
          refine lv_iinc (v := nI (i + 1)) (lv' := [(1, .int (nI (i + 1))), (2, .int (nI (S.BH i))), (0, .ref h)]) hx hb d_Tx_gatherLines_44 hl (k := 2) rfl (by exact nI_add _ _) (by decide) rfl (fun ls hl => ?_)
          refine lv_goto (tgt := 7) hx hb d_Tx_gatherLines_47 (by decide) ?_
          rw [show nI (lnUN S mw yf i) = nI (lnUN S mw yf (i + 1)) from congrArg nI (congrArg List.length (lnU_no hbt))] at hP hD
          exact ih_7 (i + 1) rwu slu _ _ _ (by omega) (by omega) (by rw [← lnU_no hbt]; exact ha1) (by rw [← lnU_no hbt]; exact ha2) hP hD hS (lv_sub hl [2, 0] rfl)
  exact loop_7 _ 0 rw9 sl _ _ _ (Nat.lt_succ_self _) (Nat.zero_le _) (arrL.nil _) (fun q z => absurd z (Nat.not_lt_zero _)) hP hD hS (lv_sub hl [1, 0] rfl)
