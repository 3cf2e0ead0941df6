/-! 58.refs.lean.txt -/
theorem gw_95 : (Jvm.Cond.fieldLink "PatchStore$Stock" (96 : Nat) "PatchStore$Changes" "patch" "[I") ∈ xg_1 := xg_s1 95 rfl rfl
theorem gw_106 : (Jvm.Cond.fieldLink "PatchStore$Stock" (83 : Nat) "PatchStore$Changes" "firstLine" "[I") ∈ xg_1 := xg_s1 106 rfl rfl
theorem gw_140 : (Jvm.Cond.fieldLink "PatchStore$Stock" (99 : Nat) "PatchStore$Lines" "length" "[I") ∈ xg_1 := xg_s1 140 rfl rfl
theorem gw_146 : (Jvm.Cond.fieldLink "PatchStore$Stock" (93 : Nat) "PatchStore$Lines" "change" "[I") ∈ xg_1 := xg_s1 146 rfl rfl
theorem gw_152 : (Jvm.Cond.fieldLink "PatchStore$Stock" (102 : Nat) "PatchStore$Lines" "place" "[I") ∈ xg_1 := xg_s1 152 rfl rfl
theorem gw_928 : (Jvm.Cond.instanceMethod ({ cls := "PatchStore$Stock", name := "lineNamed", desc := "(II)I" } : Jvm.MethodName)) ∈ xg_1 := xg_s4 208 rfl rfl
theorem gw_929 : (Jvm.Cond.selects "PatchStore$Stock" ({ cls := "PatchStore$Stock", name := "lineNamed", desc := "(II)I" } : Jvm.MethodName) ({ cls := "PatchStore$Stock", name := "lineNamed", desc := "(II)I" } : Jvm.MethodName)) ∈ xg_1 := xg_s4 209 rfl rfl
theorem gw_930 : (Jvm.Cond.code ({ cls := "PatchStore$Stock", name := "lineNamed", desc := "(II)I" } : Jvm.MethodName) prog_10_method_10_code (3 : Nat) (Option.some Jvm.ClassFile.FieldType.int)) ∈ xg_1 := xg_s4 210 rfl rfl
theorem gw_931 : (Jvm.Cond.methodLink "PatchStore$Stock" (86 : Nat) ({ cls := "PatchStore$Stock", name := "changeNamed", desc := "(II)I" } : Jvm.MethodName)) ∈ xg_1 := xg_s4 211 rfl rfl
theorem gw_932 : (Jvm.Cond.instanceMethod ({ cls := "PatchStore$Stock", name := "changeNamed", desc := "(II)I" } : Jvm.MethodName)) ∈ xg_1 := xg_s4 212 rfl rfl
theorem gw_933 : (Jvm.Cond.selects "PatchStore$Stock" ({ cls := "PatchStore$Stock", name := "changeNamed", desc := "(II)I" } : Jvm.MethodName) ({ cls := "PatchStore$Stock", name := "changeNamed", desc := "(II)I" } : Jvm.MethodName)) ∈ xg_1 := xg_s4 213 rfl rfl
theorem gw_934 : (Jvm.Cond.code ({ cls := "PatchStore$Stock", name := "changeNamed", desc := "(II)I" } : Jvm.MethodName) prog_10_method_9_code (5 : Nat) (Option.some Jvm.ClassFile.FieldType.int)) ∈ xg_1 := xg_s4 214 rfl rfl
theorem gw_935 : (Jvm.Cond.methodLink "PatchStore$Stock" (79 : Nat) ({ cls := "PatchStore$Stock", name := "two", desc := "(I)I" } : Jvm.MethodName)) ∈ xg_1 := xg_s4 215 rfl rfl
theorem gw_936 : (Jvm.Cond.constant "PatchStore$Stock" (82 : Nat) (65535 : Int32)) ∈ xg_1 := xg_s4 216 rfl rfl
theorem gw_965 : (Jvm.Cond.methodLink "PatchStore$Stock" (90 : Nat) ({ cls := "PatchStore$Stock", name := "lineNamed", desc := "(II)I" } : Jvm.MethodName)) ∈ xg_1 := xg_s5 5 rfl rfl
def y_St_changeNamed : MethodName := ⟨"PatchStore$Stock", "changeNamed", "(II)I"⟩
abbrev c_St_changeNamed : Cond := (Jvm.Cond.code ({ cls := "PatchStore$Stock", name := "changeNamed", desc := "(II)I" } : Jvm.MethodName) prog_10_method_9_code (5 : Nat) (Option.some Jvm.ClassFile.FieldType.int))
abbrev ws_St_changeNamed : List Cond := c_St_changeNamed :: xg_1
theorem d_St_changeNamed_0 : decode prog_10_method_9_code 0 = .ok (.aload_n 0, 1) := by decide +kernel
theorem d_St_changeNamed_1 : decode prog_10_method_9_code 1 = .ok (.iload_n 2, 1) := by decide +kernel
theorem d_St_changeNamed_2 : decode prog_10_method_9_code 2 = .ok (.invokevirtual 79, 3) := by decide +kernel
theorem d_St_changeNamed_5 : decode prog_10_method_9_code 5 = .ok (.istore_n 3, 1) := by decide +kernel
theorem d_St_changeNamed_6 : decode prog_10_method_9_code 6 = .ok (.iload_n 3, 1) := by decide +kernel
theorem d_St_changeNamed_7 : decode prog_10_method_9_code 7 = .ok (.ldc 82, 2) := by decide +kernel
theorem d_St_changeNamed_9 : decode prog_10_method_9_code 9 = .ok (.if_icmp .ne 7, 3) := by decide +kernel
theorem d_St_changeNamed_12 : decode prog_10_method_9_code 12 = .ok (.iload_n 1, 1) := by decide +kernel
theorem d_St_changeNamed_13 : decode prog_10_method_9_code 13 = .ok (.goto 16, 3) := by decide +kernel
theorem d_St_changeNamed_16 : decode prog_10_method_9_code 16 = .ok (.aload_n 0, 1) := by decide +kernel
theorem d_St_changeNamed_17 : decode prog_10_method_9_code 17 = .ok (.getfield 26, 3) := by decide +kernel
theorem d_St_changeNamed_20 : decode prog_10_method_9_code 20 = .ok (.aload_n 0, 1) := by decide +kernel
theorem d_St_changeNamed_21 : decode prog_10_method_9_code 21 = .ok (.getfield 20, 3) := by decide +kernel
theorem d_St_changeNamed_24 : decode prog_10_method_9_code 24 = .ok (.iload_n 1, 1) := by decide +kernel
theorem d_St_changeNamed_25 : decode prog_10_method_9_code 25 = .ok (.iaload, 1) := by decide +kernel
theorem d_St_changeNamed_26 : decode prog_10_method_9_code 26 = .ok (.iload_n 3, 1) := by decide +kernel
theorem d_St_changeNamed_27 : decode prog_10_method_9_code 27 = .ok (.iadd, 1) := by decide +kernel
theorem d_St_changeNamed_28 : decode prog_10_method_9_code 28 = .ok (.iaload, 1) := by decide +kernel
theorem d_St_changeNamed_29 : decode prog_10_method_9_code 29 = .ok (.istore 4, 2) := by decide +kernel
theorem d_St_changeNamed_31 : decode prog_10_method_9_code 31 = .ok (.aload_n 0, 1) := by decide +kernel
theorem d_St_changeNamed_32 : decode prog_10_method_9_code 32 = .ok (.getfield 23, 3) := by decide +kernel
theorem d_St_changeNamed_35 : decode prog_10_method_9_code 35 = .ok (.iload 4, 2) := by decide +kernel
theorem d_St_changeNamed_37 : decode prog_10_method_9_code 37 = .ok (.iaload, 1) := by decide +kernel
theorem d_St_changeNamed_38 : decode prog_10_method_9_code 38 = .ok (.aload_n 0, 1) := by decide +kernel
theorem d_St_changeNamed_39 : decode prog_10_method_9_code 39 = .ok (.iload_n 2, 1) := by decide +kernel
theorem d_St_changeNamed_40 : decode prog_10_method_9_code 40 = .ok (.iconst 2, 1) := by decide +kernel
theorem d_St_changeNamed_41 : decode prog_10_method_9_code 41 = .ok (.iadd, 1) := by decide +kernel
theorem d_St_changeNamed_42 : decode prog_10_method_9_code 42 = .ok (.invokevirtual 79, 3) := by decide +kernel
theorem d_St_changeNamed_45 : decode prog_10_method_9_code 45 = .ok (.iadd, 1) := by decide +kernel
theorem d_St_changeNamed_46 : decode prog_10_method_9_code 46 = .ok (.ireturn, 1) := by decide +kernel
def y_St_lineNamed : MethodName := ⟨"PatchStore$Stock", "lineNamed", "(II)I"⟩
abbrev c_St_lineNamed : Cond := (Jvm.Cond.code ({ cls := "PatchStore$Stock", name := "lineNamed", desc := "(II)I" } : Jvm.MethodName) prog_10_method_10_code (3 : Nat) (Option.some Jvm.ClassFile.FieldType.int))
abbrev ws_St_lineNamed : List Cond := c_St_lineNamed :: xg_1
theorem d_St_lineNamed_0 : decode prog_10_method_10_code 0 = .ok (.aload_n 0, 1) := by decide +kernel
theorem d_St_lineNamed_1 : decode prog_10_method_10_code 1 = .ok (.getfield 45, 3) := by decide +kernel
theorem d_St_lineNamed_4 : decode prog_10_method_10_code 4 = .ok (.getfield 83, 3) := by decide +kernel
theorem d_St_lineNamed_7 : decode prog_10_method_10_code 7 = .ok (.aload_n 0, 1) := by decide +kernel
theorem d_St_lineNamed_8 : decode prog_10_method_10_code 8 = .ok (.iload_n 1, 1) := by decide +kernel
theorem d_St_lineNamed_9 : decode prog_10_method_10_code 9 = .ok (.iload_n 2, 1) := by decide +kernel
theorem d_St_lineNamed_10 : decode prog_10_method_10_code 10 = .ok (.invokevirtual 86, 3) := by decide +kernel
theorem d_St_lineNamed_13 : decode prog_10_method_10_code 13 = .ok (.iaload, 1) := by decide +kernel
theorem d_St_lineNamed_14 : decode prog_10_method_10_code 14 = .ok (.aload_n 0, 1) := by decide +kernel
theorem d_St_lineNamed_15 : decode prog_10_method_10_code 15 = .ok (.iload_n 2, 1) := by decide +kernel
theorem d_St_lineNamed_16 : decode prog_10_method_10_code 16 = .ok (.iconst 4, 1) := by decide +kernel
theorem d_St_lineNamed_17 : decode prog_10_method_10_code 17 = .ok (.iadd, 1) := by decide +kernel
theorem d_St_lineNamed_18 : decode prog_10_method_10_code 18 = .ok (.invokevirtual 79, 3) := by decide +kernel
theorem d_St_lineNamed_21 : decode prog_10_method_10_code 21 = .ok (.iadd, 1) := by decide +kernel
theorem d_St_lineNamed_22 : decode prog_10_method_10_code 22 = .ok (.ireturn, 1) := by decide +kernel
def y_St_lineOrNone : MethodName := ⟨"PatchStore$Stock", "lineOrNone", "(II)I"⟩
abbrev c_St_lineOrNone : Cond := (Jvm.Cond.code ({ cls := "PatchStore$Stock", name := "lineOrNone", desc := "(II)I" } : Jvm.MethodName) prog_10_method_11_code (3 : Nat) (Option.some Jvm.ClassFile.FieldType.int))
abbrev ws_St_lineOrNone : List Cond := c_St_lineOrNone :: xg_1
theorem d_St_lineOrNone_0 : decode prog_10_method_11_code 0 = .ok (.aload_n 0, 1) := by decide +kernel
theorem d_St_lineOrNone_1 : decode prog_10_method_11_code 1 = .ok (.getfield 10, 3) := by decide +kernel
theorem d_St_lineOrNone_4 : decode prog_10_method_11_code 4 = .ok (.iload_n 2, 1) := by decide +kernel
theorem d_St_lineOrNone_5 : decode prog_10_method_11_code 5 = .ok (.baload, 1) := by decide +kernel
theorem d_St_lineOrNone_6 : decode prog_10_method_11_code 6 = .ok (.ifCond .ne 7, 3) := by decide +kernel
theorem d_St_lineOrNone_9 : decode prog_10_method_11_code 9 = .ok (.iconst (-1), 1) := by decide +kernel
theorem d_St_lineOrNone_10 : decode prog_10_method_11_code 10 = .ok (.goto 11, 3) := by decide +kernel
theorem d_St_lineOrNone_13 : decode prog_10_method_11_code 13 = .ok (.aload_n 0, 1) := by decide +kernel
theorem d_St_lineOrNone_14 : decode prog_10_method_11_code 14 = .ok (.iload_n 1, 1) := by decide +kernel
theorem d_St_lineOrNone_15 : decode prog_10_method_11_code 15 = .ok (.iload_n 2, 1) := by decide +kernel
theorem d_St_lineOrNone_16 : decode prog_10_method_11_code 16 = .ok (.iconst 1, 1) := by decide +kernel
theorem d_St_lineOrNone_17 : decode prog_10_method_11_code 17 = .ok (.iadd, 1) := by decide +kernel
theorem d_St_lineOrNone_18 : decode prog_10_method_11_code 18 = .ok (.invokevirtual 90, 3) := by decide +kernel
theorem d_St_lineOrNone_21 : decode prog_10_method_11_code 21 = .ok (.ireturn, 1) := by decide +kernel
def y_St_aboutLine : MethodName := ⟨"PatchStore$Stock", "aboutLine", "(II)I"⟩
abbrev c_St_aboutLine : Cond := (Jvm.Cond.code ({ cls := "PatchStore$Stock", name := "aboutLine", desc := "(II)I" } : Jvm.MethodName) prog_10_method_12_code (5 : Nat) (Option.some Jvm.ClassFile.FieldType.int))
abbrev ws_St_aboutLine : List Cond := c_St_aboutLine :: xg_1
theorem d_St_aboutLine_0 : decode prog_10_method_12_code 0 = .ok (.aload_n 0, 1) := by decide +kernel
theorem d_St_aboutLine_1 : decode prog_10_method_12_code 1 = .ok (.getfield 52, 3) := by decide +kernel
theorem d_St_aboutLine_4 : decode prog_10_method_12_code 4 = .ok (.getfield 93, 3) := by decide +kernel
theorem d_St_aboutLine_7 : decode prog_10_method_12_code 7 = .ok (.iload_n 1, 1) := by decide +kernel
theorem d_St_aboutLine_8 : decode prog_10_method_12_code 8 = .ok (.iaload, 1) := by decide +kernel
theorem d_St_aboutLine_9 : decode prog_10_method_12_code 9 = .ok (.istore_n 3, 1) := by decide +kernel
theorem d_St_aboutLine_10 : decode prog_10_method_12_code 10 = .ok (.aload_n 0, 1) := by decide +kernel
theorem d_St_aboutLine_11 : decode prog_10_method_12_code 11 = .ok (.getfield 45, 3) := by decide +kernel
theorem d_St_aboutLine_14 : decode prog_10_method_12_code 14 = .ok (.getfield 96, 3) := by decide +kernel
theorem d_St_aboutLine_17 : decode prog_10_method_12_code 17 = .ok (.iload_n 3, 1) := by decide +kernel
theorem d_St_aboutLine_18 : decode prog_10_method_12_code 18 = .ok (.iaload, 1) := by decide +kernel
theorem d_St_aboutLine_19 : decode prog_10_method_12_code 19 = .ok (.istore 4, 2) := by decide +kernel
theorem d_St_aboutLine_21 : decode prog_10_method_12_code 21 = .ok (.iload_n 2, 1) := by decide +kernel
theorem d_St_aboutLine_22 : decode prog_10_method_12_code 22 = .ok (.tableswitch 49 (-3) (-1) #[39, 36, 26], 26) := by decide +kernel
theorem d_St_aboutLine_48 : decode prog_10_method_12_code 48 = .ok (.aload_n 0, 1) := by decide +kernel
theorem d_St_aboutLine_49 : decode prog_10_method_12_code 49 = .ok (.getfield 52, 3) := by decide +kernel
theorem d_St_aboutLine_52 : decode prog_10_method_12_code 52 = .ok (.getfield 99, 3) := by decide +kernel
theorem d_St_aboutLine_55 : decode prog_10_method_12_code 55 = .ok (.iload_n 1, 1) := by decide +kernel
theorem d_St_aboutLine_56 : decode prog_10_method_12_code 56 = .ok (.iaload, 1) := by decide +kernel
theorem d_St_aboutLine_57 : decode prog_10_method_12_code 57 = .ok (.ireturn, 1) := by decide +kernel
theorem d_St_aboutLine_58 : decode prog_10_method_12_code 58 = .ok (.iload 4, 2) := by decide +kernel
theorem d_St_aboutLine_60 : decode prog_10_method_12_code 60 = .ok (.ireturn, 1) := by decide +kernel
theorem d_St_aboutLine_61 : decode prog_10_method_12_code 61 = .ok (.iload_n 3, 1) := by decide +kernel
theorem d_St_aboutLine_62 : decode prog_10_method_12_code 62 = .ok (.aload_n 0, 1) := by decide +kernel
theorem d_St_aboutLine_63 : decode prog_10_method_12_code 63 = .ok (.getfield 23, 3) := by decide +kernel
theorem d_St_aboutLine_66 : decode prog_10_method_12_code 66 = .ok (.iload 4, 2) := by decide +kernel
theorem d_St_aboutLine_68 : decode prog_10_method_12_code 68 = .ok (.iaload, 1) := by decide +kernel
theorem d_St_aboutLine_69 : decode prog_10_method_12_code 69 = .ok (.isub, 1) := by decide +kernel
theorem d_St_aboutLine_70 : decode prog_10_method_12_code 70 = .ok (.ireturn, 1) := by decide +kernel
theorem d_St_aboutLine_71 : decode prog_10_method_12_code 71 = .ok (.aload_n 0, 1) := by decide +kernel
theorem d_St_aboutLine_72 : decode prog_10_method_12_code 72 = .ok (.getfield 52, 3) := by decide +kernel
theorem d_St_aboutLine_75 : decode prog_10_method_12_code 75 = .ok (.getfield 102, 3) := by decide +kernel
theorem d_St_aboutLine_78 : decode prog_10_method_12_code 78 = .ok (.iload_n 1, 1) := by decide +kernel
theorem d_St_aboutLine_79 : decode prog_10_method_12_code 79 = .ok (.iaload, 1) := by decide +kernel
theorem d_St_aboutLine_80 : decode prog_10_method_12_code 80 = .ok (.ireturn, 1) := by decide +kernel
/-- the patch that the ref at k in patch pp names -/
def ownR (f fdf dpf : Nat → Int32) (pp k O : Nat) : Prop := (tw f k = 65535 ∧ O = pp) ∨ (¬ tw f k = 65535 ∧ ∃ D, fdf pp = nI D ∧ D + tw f k < 8400 ∧ dpf (D + tw f k) = nI O)
set_option maxHeartbeats 4000000 in
set_option maxRecDepth 100000 in
/-- the change that a ref names -/
theorem m_St_changeNamed (l : Launch) (dC : Nat → ClassId) (dI : Nat → Nat → Nat) (cI cB cL cZ cR : ClassId) (h b_y fdA dpA fcA : Nat) (sk_from sk_hashes sk_byHash sk_leansOn sk_leantBy sk_changes sk_lines sk_patches : Value) (f fdf dpf fcf : Nat → Int32) (pp k O Cc : Nat) (sz : Nat) (hk : k + 3 < 290000) (hpp : pp < 502) (gO : ownR f fdf dpf pp k O) (hO2 : O < 502) (hC : fcf O = nI Cc) : Met l y_St_changeNamed ws_St_changeNamed ({ frames := 1, cells := 0, slots := 0, locals := 60 }) (xw_Pc dC dI [(cI, .int), (cB, .byte), (cL, .long), (cZ, .boolean), (cR, .object "PatchStore$Repository")] [.ref h, .int (nI pp), .int (nI k)] [(h, .inr (9, [.ref b_y, sk_from, .ref fdA, .ref fcA, .ref dpA, sk_hashes, sk_byHash, sk_leansOn, sk_leantBy, sk_changes, sk_lines, sk_patches])), (b_y, .inl (cB, 290000, .inl f)), (fdA, .inl (cI, 502, .inl fdf)), (dpA, .inl (cI, 8400, .inl dpf)), (fcA, .inl (cI, 502, .inl fcf))] sz) (va_Qi (fun (r : Int32) (_ : Unit) => r = nI (Cc + tw f (k + 2))) (fun _ t => xw_B dC dI [(cI, .int), (cB, .byte), (cL, .long), (cZ, .boolean), (cR, .object "PatchStore$Repository")] (va_A [(h, .inr (9, [.ref b_y, sk_from, .ref fdA, .ref fcA, .ref dpA, sk_hashes, sk_byHash, sk_leansOn, sk_leantBy, sk_changes, sk_lines, sk_patches])), (b_y, .inl (cB, 290000, .inl f)), (fdA, .inl (cI, 502, .inl fdf)), (dpA, .inl (cI, 8400, .inl dpf)), (fcA, .inl (cI, 502, .inl fcf))] sz) [(h, .inr (9, [.ref b_y, sk_from, .ref fdA, .ref fcA, .ref dpA, sk_hashes, sk_byHash, sk_leansOn, sk_leantBy, sk_changes, sk_lines, sk_patches])), (b_y, .inl (cB, 290000, .inl f)), (fdA, .inl (cI, 502, .inl fdf)), (dpA, .inl (cI, 8400, .inl dpf)), (fcA, .inl (cI, 502, .inl fcf))] t) (va_A [(h, .inr (9, [.ref b_y, sk_from, .ref fdA, .ref fcA, .ref dpA, sk_hashes, sk_byHash, sk_leansOn, sk_leantBy, sk_changes, sk_lines, sk_patches])), (b_y, .inl (cB, 290000, .inl f)), (fdA, .inl (cI, 502, .inl fdf)), (dpA, .inl (cI, 8400, .inl dpf)), (fcA, .inl (cI, 502, .inl fcf))] sz)) 0 0 (va_A [(h, .inr (9, [.ref b_y, sk_from, .ref fdA, .ref fcA, .ref dpA, sk_hashes, sk_byHash, sk_leansOn, sk_leantBy, sk_changes, sk_lines, sk_patches])), (b_y, .inl (cB, 290000, .inl f)), (fdA, .inl (cI, 502, .inl fdf)), (dpA, .inl (cI, 8400, .inl dpf)), (fcA, .inl (cI, 502, .inl fcf))] sz) := by
  refine Met.ofW (cc := prog_10_method_9_code) (maxL := 5) (ret := (Option.some Jvm.ClassFile.FieldType.int)) (by decide) rfl ?_
  intro p e s m args below meth c s₁ B hml hv
  obtain ⟨rfl, hsz, hP, hK, hD0⟩ := hv
  have hx := B.exec
  have hb := B.bytes
  have hr := B.returns
  have hts0 := atoms_spec (ws := ws_St_changeNamed) B.pre
  have hts : ∀ w ∈ xg_1, w.before _ s = true := fun w h => hts0 w (List.mem_cons_of_mem _ h)
  have hown : s.vm.findClass "PatchStore$Stock" = some m.cls := findClass_of_methodNamed B.named
  have hlocks := B.notSynchronized
  subst hsz
  have hD := hD0.self (sz := s.heap.size)
  generalize hAe : va_A [(h, .inr (9, [.ref b_y, sk_from, .ref fdA, .ref fcA, .ref dpA, sk_hashes, sk_byHash, sk_leansOn, sk_leantBy, sk_changes, sk_lines, sk_patches])), (b_y, .inl (cB, 290000, .inl f)), (fdA, .inl (cI, 502, .inl fdf)), (dpA, .inl (cI, 8400, .inl dpf)), (fcA, .inl (cI, 502, .inl fcf))] s.heap.size = A at hD ⊢
  have hA : ∀ q : Nat, s.heap.size ≤ q → A q := fun q h => by rw [← hAe]; exact Or.inr h
  have hS : va_S A s.heap s.heap [] := va_S.rf
  have hl := lv_entry ([.ref h, .int (nI pp), .int (nI k)]) (n := 5) (Nat.le_of_ble_eq_true rfl)
  rw [lg_entry_eq]
  generalize (lg_sl ([.ref h, .int (nI pp), .int (nI k)]) ++ List.replicate (5 - (lg_sl ([.ref h, .int (nI pp), .int (nI k)])).length) Slot.unset).toArray = ls at hl ⊢
  have hl : lv_has ls 5 [(0, .ref h), (1, .int (nI pp)), (2, .int (nI k))] := hl
  generalize hQe : MQ _ _ _ _ _ _ _ = Q
  refine lv_aload_n hx hb d_St_changeNamed_0 rfl (lv_at hl 0 rfl) ?_
  refine lv_iload_n hx hb d_St_changeNamed_1 rfl (lv_at hl 2 rfl) ?_
  have hPc := hP.sub (ws' := [(h, .inr (9, [.ref b_y, sk_from, .ref fdA, .ref fcA, .ref dpA, sk_hashes, sk_byHash, sk_leansOn, sk_leantBy, sk_changes, sk_lines, sk_patches])), (b_y, .inl (cB, 290000, .inl f))]) [0, 1] rfl
  have hDc := hD.sub (ws' := [(h, .inr (9, [.ref b_y, sk_from, .ref fdA, .ref fcA, .ref dpA, sk_hashes, sk_byHash, sk_leansOn, sk_leantBy, sk_changes, sk_lines, sk_patches])), (b_y, .inl (cB, 290000, .inl f))]) [0, 1] (by decide) rfl
  have hFc := va_free (wc := [(h, .inr (9, [.ref b_y, sk_from, .ref fdA, .ref fcA, .ref dpA, sk_hashes, sk_byHash, sk_leansOn, sk_leantBy, sk_changes, sk_lines, sk_patches])), (b_y, .inl (cB, 290000, .inl f))]) hD hS hA [0, 1] rfl
  refine va_calli (va_runV (As := [.int (nI k)]) (rest := []) ⟨hx, hb, hml, hown, hts⟩ (m_St_two l dC dI cI cB cL cZ cR h b_y (sk_from) (.ref fdA) (.ref fcA) (.ref dpA) (sk_hashes) (sk_byHash) (sk_leansOn) (sk_leantBy) (sk_changes) (sk_lines) (sk_patches) f k s.heap.size (by omega)) (cwV 1 hts (xg_V gw_935 gw_771 gw_772 gw_3 gw_773) rfl rfl rfl (by decide +kernel) ⟨Nat.le_of_ble_eq_true rfl, Nat.le_of_ble_eq_true rfl⟩) ⟨xw_blind, va_recv hK hPc (ci := 9) (q0 := 0) rfl rfl, fun U hU hW => ⟨rfl, by rw [hU], by rw [hU]; exact hPc, va_K.moved hW.alike hK, hDc.weaken (fun _ _ _ _ => trivial)⟩⟩ rfl rfl hl.1 rfl (lv_room (Nat.le_of_ble_eq_true rfl)) d_St_changeNamed_2 ⟨Nat.le_of_ble_eq_true rfl, Nat.le_of_ble_eq_true rfl⟩) hS (fun q _ h => hFc q h) hFc (fun r9 u t H1 locs ht hvm hw hB hz1 hk1 hS => ?_)
  obtain ⟨hP1, hK1, hD1⟩ := hB
  rw [ht] at hP1
  obtain ⟨hP, hD⟩ := va_join (wr := [(fdA, .inl (cI, 502, .inl fdf)), (dpA, .inl (cI, 8400, .inl dpf)), (fcA, .inl (cI, 502, .inl fcf))]) (w1 := [(h, .inr (9, [.ref b_y, sk_from, .ref fdA, .ref fcA, .ref dpA, sk_hashes, sk_byHash, sk_leansOn, sk_leantBy, sk_changes, sk_lines, sk_patches])), (b_y, .inl (cB, 290000, .inl f))]) hP hD [0, 1] [2, 3, 4] rfl rfl (by decide) (by decide) hk1 hFc hP1 hD1
  generalize H1 = H at hP hS ⊢
  have hP : va_P (dC, dI) classes [(fdA, .inl (cI, 502, .inl fdf)), (dpA, .inl (cI, 8400, .inl dpf)), (fcA, .inl (cI, 502, .inl fcf)), (h, .inr (9, [.ref b_y, sk_from, .ref fdA, .ref fcA, .ref dpA, sk_hashes, sk_byHash, sk_leansOn, sk_leantBy, sk_changes, sk_lines, sk_patches])), (b_y, .inl (cB, 290000, .inl f))] H := hP
  have hD : va_D A [(fdA, .inl (cI, 502, .inl fdf)), (dpA, .inl (cI, 8400, .inl dpf)), (fcA, .inl (cI, 502, .inl fcf)), (h, .inr (9, [.ref b_y, sk_from, .ref fdA, .ref fcA, .ref dpA, sk_hashes, sk_byHash, sk_leansOn, sk_leantBy, sk_changes, sk_lines, sk_patches])), (b_y, .inl (cB, 290000, .inl f))] := hD
  subst hw
  have htw9 := tw_lt f k
  refine lv_istore_n (lv' := [(3, .int (nI (tw f k))), (0, .ref h), (1, .int (nI pp)), (2, .int (nI k))]) hx hb d_St_changeNamed_5 rfl hl (by decide) rfl (fun ls hl => ?_)
  refine lv_iload_n hx hb d_St_changeNamed_6 rfl (lv_at hl 0 rfl) ?_
  refine lv_ldc (own := "PatchStore$Stock") hx hb hown (hts _ gw_936) d_St_changeNamed_7 ?_
  refine lv_icmp_ne (tgt := 16) hx hb d_St_changeNamed_9 (by decide) (fun c_9 => ?_) (fun c_9 => ?_)
  · have n_9 : ¬ (tw f k) = 65535 := fun z => c_9 ((nI_eq (a := (tw f k)) (b := 65535) (by omega) (by omega)).mpr z)
    obtain ⟨D, hD1, hD2, hD3⟩ : ∃ D, fdf pp = nI D ∧ D + tw f k < 8400 ∧ dpf (D + tw f k) = nI O := gO.elim (fun z => absurd z.1 n_9) (fun z => z.2)
    refine lv_aload_n hx hb d_St_changeNamed_16 rfl (lv_at hl 1 rfl) ?_
    refine va_get (D := (dC, dI)) (ci := 9) (v := .ref dpA) (C := R_St) (T := F_St) (N := 12) hx hb hts i_St hown hK hP 3 rfl rfl 4 (by decide) (hts _ gw_202) (fun _ h9 => h9) rfl d_St_changeNamed_17 ?_
    refine lv_aload_n hx hb d_St_changeNamed_20 rfl (lv_at hl 1 rfl) ?_
    refine va_get (D := (dC, dI)) (ci := 9) (v := .ref fdA) (C := R_St) (T := F_St) (N := 12) hx hb hts i_St hown hK hP 3 rfl rfl 2 (by decide) (hts _ gw_194) (fun _ h9 => h9) rfl d_St_changeNamed_21 ?_
    refine lv_iload_n hx hb d_St_changeNamed_24 rfl (lv_at hl 2 rfl) ?_
    refine va_iald hx hb hK hP 0 0 rfl rfl (vp_in_nI (by omega) (by omega)) d_St_changeNamed_25 ?_
    rw [show (nI pp).toNatClampNeg = pp from nI_clamp (by omega)]
    refine lv_topi (fun x_1 ex_1 => ?_)
    obtain rfl : x_1 = nI D := by rw [ex_1]; first | done | (exact hD1)
    refine lv_iload_n hx hb d_St_changeNamed_26 rfl (lv_at hl 0 rfl) ?_
    refine lv_iadd hx hb d_St_changeNamed_27 ?_
    refine lv_topi (fun x_2 ex_2 => ?_)
    obtain rfl : x_2 = nI (D + (tw f k)) := by rw [ex_2]; first | done | (exact nI_add _ _)
    refine va_iald hx hb hK hP 1 0 rfl rfl (vp_in_nI (by omega) (by omega)) d_St_changeNamed_28 ?_
    rw [show (nI (D + (tw f k))).toNatClampNeg = (D + (tw f k)) from nI_clamp (by omega)]
    refine lv_topi (fun x_3 ex_3 => ?_)
    obtain rfl : x_3 = nI O := by rw [ex_3]; first | done | (exact hD3)
    refine lv_istore (lv' := [(4, .int (nI O)), (3, .int (nI (tw f k))), (0, .ref h), (1, .int (nI pp)), (2, .int (nI k))]) hx hb d_St_changeNamed_29 hl (by decide) rfl (fun ls hl => ?_)
    refine lv_aload_n hx hb d_St_changeNamed_31 rfl (lv_at hl 2 rfl) ?_
    refine va_get (D := (dC, dI)) (ci := 9) (v := .ref fcA) (C := R_St) (T := F_St) (N := 12) hx hb hts i_St hown hK hP 3 rfl rfl 3 (by decide) (hts _ gw_196) (fun _ h9 => h9) rfl d_St_changeNamed_32 ?_
    refine lv_iload hx hb d_St_changeNamed_35 (lv_at hl 0 rfl) ?_
    refine va_iald hx hb hK hP 2 0 rfl rfl (vp_in_nI (by omega) (by omega)) d_St_changeNamed_37 ?_
    rw [show (nI O).toNatClampNeg = O from nI_clamp (by omega)]
    refine lv_topi (fun x_4 ex_4 => ?_)
    obtain rfl : x_4 = nI Cc := by rw [ex_4]; first | done | (exact hC)
    refine lv_aload_n hx hb d_St_changeNamed_38 rfl (lv_at hl 2 rfl) ?_
    refine lv_iload_n hx hb d_St_changeNamed_39 rfl (lv_at hl 4 rfl) ?_
    refine lv_iconst (v := 2) hx hb d_St_changeNamed_40 (by decide) ?_
    refine lv_iadd hx hb d_St_changeNamed_41 ?_
    refine lv_topi (fun x_5 ex_5 => ?_)
    obtain rfl : x_5 = nI (k + 2) := by rw [ex_5]; first | done | (exact nI_add _ _)
    have hPc := hP.sub (ws' := [(h, .inr (9, [.ref b_y, sk_from, .ref fdA, .ref fcA, .ref dpA, sk_hashes, sk_byHash, sk_leansOn, sk_leantBy, sk_changes, sk_lines, sk_patches])), (b_y, .inl (cB, 290000, .inl f))]) [3, 4] rfl
    have hDc := hD.sub (ws' := [(h, .inr (9, [.ref b_y, sk_from, .ref fdA, .ref fcA, .ref dpA, sk_hashes, sk_byHash, sk_leansOn, sk_leantBy, sk_changes, sk_lines, sk_patches])), (b_y, .inl (cB, 290000, .inl f))]) [3, 4] (by decide) rfl
    have hFc := va_free (wc := [(h, .inr (9, [.ref b_y, sk_from, .ref fdA, .ref fcA, .ref dpA, sk_hashes, sk_byHash, sk_leansOn, sk_leantBy, sk_changes, sk_lines, sk_patches])), (b_y, .inl (cB, 290000, .inl f))]) hD hS hA [3, 4] rfl
    refine va_calli (va_runV (As := [.int (nI (k + 2))]) (rest := [.int (nI Cc)]) ⟨hx, hb, hml, hown, hts⟩ (m_St_two l dC dI cI cB cL cZ cR h b_y (sk_from) (.ref fdA) (.ref fcA) (.ref dpA) (sk_hashes) (sk_byHash) (sk_leansOn) (sk_leantBy) (sk_changes) (sk_lines) (sk_patches) f (k + 2) H.size (by omega)) (cwV 1 hts (xg_V gw_935 gw_771 gw_772 gw_3 gw_773) rfl rfl rfl (by decide +kernel) ⟨Nat.le_of_ble_eq_true rfl, Nat.le_of_ble_eq_true rfl⟩) ⟨xw_blind, va_recv hK hPc (ci := 9) (q0 := 0) rfl rfl, fun U hU hW => ⟨rfl, by rw [hU], by rw [hU]; exact hPc, va_K.moved hW.alike hK, hDc.weaken (fun _ _ _ _ => trivial)⟩⟩ rfl rfl hl.1 rfl (lv_room (Nat.le_of_ble_eq_true rfl)) d_St_changeNamed_42 ⟨Nat.le_of_ble_eq_true rfl, Nat.le_of_ble_eq_true rfl⟩) hS (fun q _ h => hFc q h) hFc (fun r9 u t H1 locs ht hvm hw hB hz1 hk1 hS => ?_)
    obtain ⟨hP1, hK1, hD1⟩ := hB
    rw [ht] at hP1
    obtain ⟨hP, hD⟩ := va_join (wr := [(fdA, .inl (cI, 502, .inl fdf)), (dpA, .inl (cI, 8400, .inl dpf)), (fcA, .inl (cI, 502, .inl fcf))]) (w1 := [(h, .inr (9, [.ref b_y, sk_from, .ref fdA, .ref fcA, .ref dpA, sk_hashes, sk_byHash, sk_leansOn, sk_leantBy, sk_changes, sk_lines, sk_patches])), (b_y, .inl (cB, 290000, .inl f))]) hP hD [3, 4] [0, 1, 2] rfl rfl (by decide) (by decide) hk1 hFc hP1 hD1
    generalize H1 = H at hP hS ⊢
    have hP : va_P (dC, dI) classes [(fdA, .inl (cI, 502, .inl fdf)), (dpA, .inl (cI, 8400, .inl dpf)), (fcA, .inl (cI, 502, .inl fcf)), (h, .inr (9, [.ref b_y, sk_from, .ref fdA, .ref fcA, .ref dpA, sk_hashes, sk_byHash, sk_leansOn, sk_leantBy, sk_changes, sk_lines, sk_patches])), (b_y, .inl (cB, 290000, .inl f))] H := hP
    have hD : va_D A [(fdA, .inl (cI, 502, .inl fdf)), (dpA, .inl (cI, 8400, .inl dpf)), (fcA, .inl (cI, 502, .inl fcf)), (h, .inr (9, [.ref b_y, sk_from, .ref fdA, .ref fcA, .ref dpA, sk_hashes, sk_byHash, sk_leansOn, sk_leantBy, sk_changes, sk_lines, sk_patches])), (b_y, .inl (cB, 290000, .inl f))] := hD
    subst hw
    have htw9 := tw_lt f (k + 2)
    refine lv_iadd hx hb d_St_changeNamed_45 ?_
    refine lv_topi (fun x_6 ex_6 => ?_)
    obtain rfl : x_6 = nI (Cc + (tw f (k + 2))) := by rw [ex_6]; first | done | (exact nI_add _ _)
    have hP := hP.sub (ws' := [(h, .inr (9, [.ref b_y, sk_from, .ref fdA, .ref fcA, .ref dpA, sk_hashes, sk_byHash, sk_leansOn, sk_leantBy, sk_changes, sk_lines, sk_patches])), (b_y, .inl (cB, 290000, .inl f)), (fdA, .inl (cI, 502, .inl fdf)), (dpA, .inl (cI, 8400, .inl dpf)), (fcA, .inl (cI, 502, .inl fcf))]) [3, 4, 0, 1, 2] rfl
    have hD := hD.sub (ws' := [(h, .inr (9, [.ref b_y, sk_from, .ref fdA, .ref fcA, .ref dpA, sk_hashes, sk_byHash, sk_leansOn, sk_leantBy, sk_changes, sk_lines, sk_patches])), (b_y, .inl (cB, 290000, .inl f)), (fdA, .inl (cI, 502, .inl fdf)), (dpA, .inl (cI, 8400, .inl dpf)), (fcA, .inl (cI, 502, .inl fcf))]) [3, 4, 0, 1, 2] (by decide) rfl
    rw [← hQe]
    exact W.iret (v := nI (Cc + (tw f (k + 2)))) hx hb hr (fun t ht hW => ⟨⟨_, (), rfl, rfl, by rw [ht]; exact hP, va_K.moved hW.alike hK, hD⟩, hS.F ht⟩) hS.2.2 d_St_changeNamed_46
  · have n_9 : (tw f k) = 65535 := (nI_eq (a := (tw f k)) (b := 65535) (by omega) (by omega)).mp c_9
    have hO : O = pp := gO.elim (fun z => z.2) (fun z => absurd n_9 z.1)
    refine lv_iload_n hx hb d_St_changeNamed_12 rfl (lv_at hl 2 rfl) ?_
    refine lv_goto (tgt := 29) hx hb d_St_changeNamed_13 (by decide) ?_
    refine lv_topi (fun x_7 ex_7 => ?_)
    obtain rfl : x_7 = nI O := by rw [ex_7]; first | done | (rw [hO])
    refine lv_istore (lv' := [(4, .int (nI O)), (3, .int (nI (tw f k))), (0, .ref h), (1, .int (nI pp)), (2, .int (nI k))]) hx hb d_St_changeNamed_29 hl (by decide) rfl (fun ls hl => ?_)
    refine lv_aload_n hx hb d_St_changeNamed_31 rfl (lv_at hl 2 rfl) ?_
    refine va_get (D := (dC, dI)) (ci := 9) (v := .ref fcA) (C := R_St) (T := F_St) (N := 12) hx hb hts i_St hown hK hP 3 rfl rfl 3 (by decide) (hts _ gw_196) (fun _ h9 => h9) rfl d_St_changeNamed_32 ?_
    refine lv_iload hx hb d_St_changeNamed_35 (lv_at hl 0 rfl) ?_
    refine va_iald hx hb hK hP 2 0 rfl rfl (vp_in_nI (by omega) (by omega)) d_St_changeNamed_37 ?_
    rw [show (nI O).toNatClampNeg = O from nI_clamp (by omega)]
    refine lv_topi (fun x_8 ex_8 => ?_)
    obtain rfl : x_8 = nI Cc := by rw [ex_8]; first | done | (exact hC)
    refine lv_aload_n hx hb d_St_changeNamed_38 rfl (lv_at hl 2 rfl) ?_
    refine lv_iload_n hx hb d_St_changeNamed_39 rfl (lv_at hl 4 rfl) ?_
    refine lv_iconst (v := 2) hx hb d_St_changeNamed_40 (by decide) ?_
    refine lv_iadd hx hb d_St_changeNamed_41 ?_
    refine lv_topi (fun x_9 ex_9 => ?_)
    obtain rfl : x_9 = nI (k + 2) := by rw [ex_9]; first | done | (exact nI_add _ _)
    have hPc := hP.sub (ws' := [(h, .inr (9, [.ref b_y, sk_from, .ref fdA, .ref fcA, .ref dpA, sk_hashes, sk_byHash, sk_leansOn, sk_leantBy, sk_changes, sk_lines, sk_patches])), (b_y, .inl (cB, 290000, .inl f))]) [3, 4] rfl
    have hDc := hD.sub (ws' := [(h, .inr (9, [.ref b_y, sk_from, .ref fdA, .ref fcA, .ref dpA, sk_hashes, sk_byHash, sk_leansOn, sk_leantBy, sk_changes, sk_lines, sk_patches])), (b_y, .inl (cB, 290000, .inl f))]) [3, 4] (by decide) rfl
    have hFc := va_free (wc := [(h, .inr (9, [.ref b_y, sk_from, .ref fdA, .ref fcA, .ref dpA, sk_hashes, sk_byHash, sk_leansOn, sk_leantBy, sk_changes, sk_lines, sk_patches])), (b_y, .inl (cB, 290000, .inl f))]) hD hS hA [3, 4] rfl
    refine va_calli (va_runV (As := [.int (nI (k + 2))]) (rest := [.int (nI Cc)]) ⟨hx, hb, hml, hown, hts⟩ (m_St_two l dC dI cI cB cL cZ cR h b_y (sk_from) (.ref fdA) (.ref fcA) (.ref dpA) (sk_hashes) (sk_byHash) (sk_leansOn) (sk_leantBy) (sk_changes) (sk_lines) (sk_patches) f (k + 2) H.size (by omega)) (cwV 1 hts (xg_V gw_935 gw_771 gw_772 gw_3 gw_773) rfl rfl rfl (by decide +kernel) ⟨Nat.le_of_ble_eq_true rfl, Nat.le_of_ble_eq_true rfl⟩) ⟨xw_blind, va_recv hK hPc (ci := 9) (q0 := 0) rfl rfl, fun U hU hW => ⟨rfl, by rw [hU], by rw [hU]; exact hPc, va_K.moved hW.alike hK, hDc.weaken (fun _ _ _ _ => trivial)⟩⟩ rfl rfl hl.1 rfl (lv_room (Nat.le_of_ble_eq_true rfl)) d_St_changeNamed_42 ⟨Nat.le_of_ble_eq_true rfl, Nat.le_of_ble_eq_true rfl⟩) hS (fun q _ h => hFc q h) hFc (fun r9 u t H1 locs ht hvm hw hB hz1 hk1 hS => ?_)
    obtain ⟨hP1, hK1, hD1⟩ := hB
    rw [ht] at hP1
    obtain ⟨hP, hD⟩ := va_join (wr := [(fdA, .inl (cI, 502, .inl fdf)), (dpA, .inl (cI, 8400, .inl dpf)), (fcA, .inl (cI, 502, .inl fcf))]) (w1 := [(h, .inr (9, [.ref b_y, sk_from, .ref fdA, .ref fcA, .ref dpA, sk_hashes, sk_byHash, sk_leansOn, sk_leantBy, sk_changes, sk_lines, sk_patches])), (b_y, .inl (cB, 290000, .inl f))]) hP hD [3, 4] [0, 1, 2] rfl rfl (by decide) (by decide) hk1 hFc hP1 hD1
    generalize H1 = H at hP hS ⊢
    have hP : va_P (dC, dI) classes [(fdA, .inl (cI, 502, .inl fdf)), (dpA, .inl (cI, 8400, .inl dpf)), (fcA, .inl (cI, 502, .inl fcf)), (h, .inr (9, [.ref b_y, sk_from, .ref fdA, .ref fcA, .ref dpA, sk_hashes, sk_byHash, sk_leansOn, sk_leantBy, sk_changes, sk_lines, sk_patches])), (b_y, .inl (cB, 290000, .inl f))] H := hP
    have hD : va_D A [(fdA, .inl (cI, 502, .inl fdf)), (dpA, .inl (cI, 8400, .inl dpf)), (fcA, .inl (cI, 502, .inl fcf)), (h, .inr (9, [.ref b_y, sk_from, .ref fdA, .ref fcA, .ref dpA, sk_hashes, sk_byHash, sk_leansOn, sk_leantBy, sk_changes, sk_lines, sk_patches])), (b_y, .inl (cB, 290000, .inl f))] := hD
    subst hw
    have htw9 := tw_lt f (k + 2)
    refine lv_iadd hx hb d_St_changeNamed_45 ?_
    refine lv_topi (fun x_10 ex_10 => ?_)
    obtain rfl : x_10 = nI (Cc + (tw f (k + 2))) := by rw [ex_10]; first | done | (exact nI_add _ _)
    have hP := hP.sub (ws' := [(h, .inr (9, [.ref b_y, sk_from, .ref fdA, .ref fcA, .ref dpA, sk_hashes, sk_byHash, sk_leansOn, sk_leantBy, sk_changes, sk_lines, sk_patches])), (b_y, .inl (cB, 290000, .inl f)), (fdA, .inl (cI, 502, .inl fdf)), (dpA, .inl (cI, 8400, .inl dpf)), (fcA, .inl (cI, 502, .inl fcf))]) [3, 4, 0, 1, 2] rfl
    have hD := hD.sub (ws' := [(h, .inr (9, [.ref b_y, sk_from, .ref fdA, .ref fcA, .ref dpA, sk_hashes, sk_byHash, sk_leansOn, sk_leantBy, sk_changes, sk_lines, sk_patches])), (b_y, .inl (cB, 290000, .inl f)), (fdA, .inl (cI, 502, .inl fdf)), (dpA, .inl (cI, 8400, .inl dpf)), (fcA, .inl (cI, 502, .inl fcf))]) [3, 4, 0, 1, 2] (by decide) rfl
    rw [← hQe]
    exact W.iret (v := nI (Cc + (tw f (k + 2)))) hx hb hr (fun t ht hW => ⟨⟨_, (), rfl, rfl, by rw [ht]; exact hP, va_K.moved hW.alike hK, hD⟩, hS.F ht⟩) hS.2.2 d_St_changeNamed_46
set_option maxHeartbeats 4000000 in
set_option maxRecDepth 100000 in
/-- the line that a ref names -/
theorem m_St_lineNamed (l : Launch) (dC : Nat → ClassId) (dI : Nat → Nat → Nat) (cI cB cL cZ cR : ClassId) (h b_y fdA dpA fcA ch flA : Nat) (sk_from sk_hashes sk_byHash sk_leansOn sk_leantBy sk_lines sk_patches ch_at ch_patch ch_file ch_adds ch_files : Value) (f fdf dpf fcf flf : Nat → Int32) (pp k O Cc L0 : Nat) (sz : Nat) (hk : k + 5 < 290000) (hpp : pp < 502) (gO : ownR f fdf dpf pp k O) (hO2 : O < 502) (hC : fcf O = nI Cc) (hc2 : Cc + tw f (k + 2) < 38000) (hL0 : flf (Cc + tw f (k + 2)) = nI L0) : Met l y_St_lineNamed ws_St_lineNamed ({ frames := 2, cells := 0, slots := 0, locals := 100 }) (xw_Pc dC dI [(cI, .int), (cB, .byte), (cL, .long), (cZ, .boolean), (cR, .object "PatchStore$Repository")] [.ref h, .int (nI pp), .int (nI k)] [(h, .inr (9, [.ref b_y, sk_from, .ref fdA, .ref fcA, .ref dpA, sk_hashes, sk_byHash, sk_leansOn, sk_leantBy, .ref ch, sk_lines, sk_patches])), (b_y, .inl (cB, 290000, .inl f)), (fdA, .inl (cI, 502, .inl fdf)), (dpA, .inl (cI, 8400, .inl dpf)), (fcA, .inl (cI, 502, .inl fcf)), (ch, .inr (1, [ch_at, ch_patch, ch_file, .ref flA, ch_adds, ch_files])), (flA, .inl (cI, 38000, .inl flf))] sz) (va_Qi (fun (r : Int32) (_ : Unit) => r = nI (L0 + tw f (k + 4))) (fun _ t => xw_B dC dI [(cI, .int), (cB, .byte), (cL, .long), (cZ, .boolean), (cR, .object "PatchStore$Repository")] (va_A [(h, .inr (9, [.ref b_y, sk_from, .ref fdA, .ref fcA, .ref dpA, sk_hashes, sk_byHash, sk_leansOn, sk_leantBy, .ref ch, sk_lines, sk_patches])), (b_y, .inl (cB, 290000, .inl f)), (fdA, .inl (cI, 502, .inl fdf)), (dpA, .inl (cI, 8400, .inl dpf)), (fcA, .inl (cI, 502, .inl fcf)), (ch, .inr (1, [ch_at, ch_patch, ch_file, .ref flA, ch_adds, ch_files])), (flA, .inl (cI, 38000, .inl flf))] sz) [(h, .inr (9, [.ref b_y, sk_from, .ref fdA, .ref fcA, .ref dpA, sk_hashes, sk_byHash, sk_leansOn, sk_leantBy, .ref ch, sk_lines, sk_patches])), (b_y, .inl (cB, 290000, .inl f)), (fdA, .inl (cI, 502, .inl fdf)), (dpA, .inl (cI, 8400, .inl dpf)), (fcA, .inl (cI, 502, .inl fcf)), (ch, .inr (1, [ch_at, ch_patch, ch_file, .ref flA, ch_adds, ch_files])), (flA, .inl (cI, 38000, .inl flf))] t) (va_A [(h, .inr (9, [.ref b_y, sk_from, .ref fdA, .ref fcA, .ref dpA, sk_hashes, sk_byHash, sk_leansOn, sk_leantBy, .ref ch, sk_lines, sk_patches])), (b_y, .inl (cB, 290000, .inl f)), (fdA, .inl (cI, 502, .inl fdf)), (dpA, .inl (cI, 8400, .inl dpf)), (fcA, .inl (cI, 502, .inl fcf)), (ch, .inr (1, [ch_at, ch_patch, ch_file, .ref flA, ch_adds, ch_files])), (flA, .inl (cI, 38000, .inl flf))] sz)) 0 0 (va_A [(h, .inr (9, [.ref b_y, sk_from, .ref fdA, .ref fcA, .ref dpA, sk_hashes, sk_byHash, sk_leansOn, sk_leantBy, .ref ch, sk_lines, sk_patches])), (b_y, .inl (cB, 290000, .inl f)), (fdA, .inl (cI, 502, .inl fdf)), (dpA, .inl (cI, 8400, .inl dpf)), (fcA, .inl (cI, 502, .inl fcf)), (ch, .inr (1, [ch_at, ch_patch, ch_file, .ref flA, ch_adds, ch_files])), (flA, .inl (cI, 38000, .inl flf))] sz) := by
  refine Met.ofW (cc := prog_10_method_10_code) (maxL := 3) (ret := (Option.some Jvm.ClassFile.FieldType.int)) (by decide) rfl ?_
  intro p e s m args below meth c s₁ B hml hv
  obtain ⟨rfl, hsz, hP, hK, hD0⟩ := hv
  have hx := B.exec
  have hb := B.bytes
  have hr := B.returns
  have hts0 := atoms_spec (ws := ws_St_lineNamed) B.pre
  have hts : ∀ w ∈ xg_1, w.before _ s = true := fun w h => hts0 w (List.mem_cons_of_mem _ h)
  have hown : s.vm.findClass "PatchStore$Stock" = some m.cls := findClass_of_methodNamed B.named
  have hlocks := B.notSynchronized
  subst hsz
  have hD := hD0.self (sz := s.heap.size)
  generalize hAe : va_A [(h, .inr (9, [.ref b_y, sk_from, .ref fdA, .ref fcA, .ref dpA, sk_hashes, sk_byHash, sk_leansOn, sk_leantBy, .ref ch, sk_lines, sk_patches])), (b_y, .inl (cB, 290000, .inl f)), (fdA, .inl (cI, 502, .inl fdf)), (dpA, .inl (cI, 8400, .inl dpf)), (fcA, .inl (cI, 502, .inl fcf)), (ch, .inr (1, [ch_at, ch_patch, ch_file, .ref flA, ch_adds, ch_files])), (flA, .inl (cI, 38000, .inl flf))] s.heap.size = A at hD ⊢
  have hA : ∀ q : Nat, s.heap.size ≤ q → A q := fun q h => by rw [← hAe]; exact Or.inr h
  have hS : va_S A s.heap s.heap [] := va_S.rf
  have hl := lv_entry ([.ref h, .int (nI pp), .int (nI k)]) (n := 3) (Nat.le_of_ble_eq_true rfl)
  rw [lg_entry_eq]
  generalize (lg_sl ([.ref h, .int (nI pp), .int (nI k)]) ++ List.replicate (3 - (lg_sl ([.ref h, .int (nI pp), .int (nI k)])).length) Slot.unset).toArray = ls at hl ⊢
  have hl : lv_has ls 3 [(0, .ref h), (1, .int (nI pp)), (2, .int (nI k))] := hl
  refine lv_aload_n hx hb d_St_lineNamed_0 rfl (lv_at hl 0 rfl) ?_
  refine va_get (D := (dC, dI)) (ci := 9) (v := .ref ch) (C := R_St) (T := F_St) (N := 12) hx hb hts i_St hown hK hP 0 rfl rfl 9 (by decide) (hts _ gw_224) (fun _ h9 => h9) rfl d_St_lineNamed_1 ?_
  refine va_get (D := (dC, dI)) (ci := 1) (v := .ref flA) (C := R_Ch) (T := F_Ch) (N := 6) hx hb hts i_Ch hown hK hP 5 rfl rfl 3 (by decide) (hts _ gw_106) (fun _ h9 => h9) rfl d_St_lineNamed_4 ?_
  refine lv_aload_n hx hb d_St_lineNamed_7 rfl (lv_at hl 0 rfl) ?_
  refine lv_iload_n hx hb d_St_lineNamed_8 rfl (lv_at hl 1 rfl) ?_
  refine lv_iload_n hx hb d_St_lineNamed_9 rfl (lv_at hl 2 rfl) ?_
  have hPc := hP.sub (ws' := [(h, .inr (9, [.ref b_y, sk_from, .ref fdA, .ref fcA, .ref dpA, sk_hashes, sk_byHash, sk_leansOn, sk_leantBy, .ref ch, sk_lines, sk_patches])), (b_y, .inl (cB, 290000, .inl f)), (fdA, .inl (cI, 502, .inl fdf)), (dpA, .inl (cI, 8400, .inl dpf)), (fcA, .inl (cI, 502, .inl fcf))]) [0, 1, 2, 3, 4] rfl
  have hDc := hD.sub (ws' := [(h, .inr (9, [.ref b_y, sk_from, .ref fdA, .ref fcA, .ref dpA, sk_hashes, sk_byHash, sk_leansOn, sk_leantBy, .ref ch, sk_lines, sk_patches])), (b_y, .inl (cB, 290000, .inl f)), (fdA, .inl (cI, 502, .inl fdf)), (dpA, .inl (cI, 8400, .inl dpf)), (fcA, .inl (cI, 502, .inl fcf))]) [0, 1, 2, 3, 4] (by decide) rfl
  have hFc := va_free (wc := [(h, .inr (9, [.ref b_y, sk_from, .ref fdA, .ref fcA, .ref dpA, sk_hashes, sk_byHash, sk_leansOn, sk_leantBy, .ref ch, sk_lines, sk_patches])), (b_y, .inl (cB, 290000, .inl f)), (fdA, .inl (cI, 502, .inl fdf)), (dpA, .inl (cI, 8400, .inl dpf)), (fcA, .inl (cI, 502, .inl fcf))]) hD hS hA [0, 1, 2, 3, 4] rfl
  refine va_calli (va_runV (As := [.int (nI pp), .int (nI k)]) (rest := [.ref flA]) ⟨hx, hb, hml, hown, hts⟩ (m_St_changeNamed l dC dI cI cB cL cZ cR h b_y fdA dpA fcA (sk_from) (sk_hashes) (sk_byHash) (sk_leansOn) (sk_leantBy) (.ref ch) (sk_lines) (sk_patches) f fdf dpf fcf pp k O Cc s.heap.size (by omega) hpp gO hO2 hC) (cwV 2 hts (xg_V gw_931 gw_932 gw_933 gw_3 gw_934) rfl rfl rfl (by decide +kernel) ⟨Nat.le_of_ble_eq_true rfl, Nat.le_of_ble_eq_true rfl⟩) ⟨xw_blind, va_recv hK hPc (ci := 9) (q0 := 0) rfl rfl, fun U hU hW => ⟨rfl, by rw [hU], by rw [hU]; exact hPc, va_K.moved hW.alike hK, hDc.weaken (fun _ _ _ _ => trivial)⟩⟩ rfl rfl hl.1 rfl (lv_room (Nat.le_of_ble_eq_true rfl)) d_St_lineNamed_10 ⟨Nat.le_of_ble_eq_true rfl, Nat.le_of_ble_eq_true rfl⟩) hS (fun q _ h => hFc q h) hFc (fun r9 u t H1 locs ht hvm hw hB hz1 hk1 hS => ?_)
  obtain ⟨hP1, hK1, hD1⟩ := hB
  rw [ht] at hP1
  obtain ⟨hP, hD⟩ := va_join (wr := [(ch, .inr (1, [ch_at, ch_patch, ch_file, .ref flA, ch_adds, ch_files])), (flA, .inl (cI, 38000, .inl flf))]) (w1 := [(h, .inr (9, [.ref b_y, sk_from, .ref fdA, .ref fcA, .ref dpA, sk_hashes, sk_byHash, sk_leansOn, sk_leantBy, .ref ch, sk_lines, sk_patches])), (b_y, .inl (cB, 290000, .inl f)), (fdA, .inl (cI, 502, .inl fdf)), (dpA, .inl (cI, 8400, .inl dpf)), (fcA, .inl (cI, 502, .inl fcf))]) hP hD [0, 1, 2, 3, 4] [5, 6] rfl rfl (by decide) (by decide) hk1 hFc hP1 hD1
  generalize H1 = H at hP hS ⊢
  have hP : va_P (dC, dI) classes [(ch, .inr (1, [ch_at, ch_patch, ch_file, .ref flA, ch_adds, ch_files])), (flA, .inl (cI, 38000, .inl flf)), (h, .inr (9, [.ref b_y, sk_from, .ref fdA, .ref fcA, .ref dpA, sk_hashes, sk_byHash, sk_leansOn, sk_leantBy, .ref ch, sk_lines, sk_patches])), (b_y, .inl (cB, 290000, .inl f)), (fdA, .inl (cI, 502, .inl fdf)), (dpA, .inl (cI, 8400, .inl dpf)), (fcA, .inl (cI, 502, .inl fcf))] H := hP
  have hD : va_D A [(ch, .inr (1, [ch_at, ch_patch, ch_file, .ref flA, ch_adds, ch_files])), (flA, .inl (cI, 38000, .inl flf)), (h, .inr (9, [.ref b_y, sk_from, .ref fdA, .ref fcA, .ref dpA, sk_hashes, sk_byHash, sk_leansOn, sk_leantBy, .ref ch, sk_lines, sk_patches])), (b_y, .inl (cB, 290000, .inl f)), (fdA, .inl (cI, 502, .inl fdf)), (dpA, .inl (cI, 8400, .inl dpf)), (fcA, .inl (cI, 502, .inl fcf))] := hD
  subst hw
  have htw8 := tw_lt f (k + 2)
  refine va_iald hx hb hK hP 1 0 rfl rfl (vp_in_nI (by omega) (by omega)) d_St_lineNamed_13 ?_
  rw [show (nI (Cc + tw f (k + 2))).toNatClampNeg = (Cc + tw f (k + 2)) from nI_clamp (by omega)]
  refine lv_topi (fun x_1 ex_1 => ?_)
  obtain rfl : x_1 = nI L0 := by rw [ex_1]; first | done | (exact hL0)
  refine lv_aload_n hx hb d_St_lineNamed_14 rfl (lv_at hl 0 rfl) ?_
  refine lv_iload_n hx hb d_St_lineNamed_15 rfl (lv_at hl 2 rfl) ?_
  refine lv_iconst (v := 4) hx hb d_St_lineNamed_16 (by decide) ?_
  refine lv_iadd hx hb d_St_lineNamed_17 ?_
  refine lv_topi (fun x_2 ex_2 => ?_)
  obtain rfl : x_2 = nI (k + 4) := by rw [ex_2]; first | done | (exact nI_add _ _)
  have hPc := hP.sub (ws' := [(h, .inr (9, [.ref b_y, sk_from, .ref fdA, .ref fcA, .ref dpA, sk_hashes, sk_byHash, sk_leansOn, sk_leantBy, .ref ch, sk_lines, sk_patches])), (b_y, .inl (cB, 290000, .inl f))]) [2, 3] rfl
  have hDc := hD.sub (ws' := [(h, .inr (9, [.ref b_y, sk_from, .ref fdA, .ref fcA, .ref dpA, sk_hashes, sk_byHash, sk_leansOn, sk_leantBy, .ref ch, sk_lines, sk_patches])), (b_y, .inl (cB, 290000, .inl f))]) [2, 3] (by decide) rfl
  have hFc := va_free (wc := [(h, .inr (9, [.ref b_y, sk_from, .ref fdA, .ref fcA, .ref dpA, sk_hashes, sk_byHash, sk_leansOn, sk_leantBy, .ref ch, sk_lines, sk_patches])), (b_y, .inl (cB, 290000, .inl f))]) hD hS hA [2, 3] rfl
  refine va_calli (va_runV (As := [.int (nI (k + 4))]) (rest := [.int (nI L0)]) ⟨hx, hb, hml, hown, hts⟩ (m_St_two l dC dI cI cB cL cZ cR h b_y (sk_from) (.ref fdA) (.ref fcA) (.ref dpA) (sk_hashes) (sk_byHash) (sk_leansOn) (sk_leantBy) (.ref ch) (sk_lines) (sk_patches) f (k + 4) H.size (by omega)) (cwV 1 hts (xg_V gw_935 gw_771 gw_772 gw_3 gw_773) rfl rfl rfl (by decide +kernel) ⟨Nat.le_of_ble_eq_true rfl, Nat.le_of_ble_eq_true rfl⟩) ⟨xw_blind, va_recv hK hPc (ci := 9) (q0 := 0) rfl rfl, fun U hU hW => ⟨rfl, by rw [hU], by rw [hU]; exact hPc, va_K.moved hW.alike hK, hDc.weaken (fun _ _ _ _ => trivial)⟩⟩ rfl rfl hl.1 rfl (lv_room (Nat.le_of_ble_eq_true rfl)) d_St_lineNamed_18 ⟨Nat.le_of_ble_eq_true rfl, Nat.le_of_ble_eq_true rfl⟩) hS (fun q _ h => hFc q h) hFc (fun r9 u t H1 locs ht hvm hw hB hz1 hk1 hS => ?_)
  obtain ⟨hP1, hK1, hD1⟩ := hB
  rw [ht] at hP1
  obtain ⟨hP, hD⟩ := va_join (wr := [(ch, .inr (1, [ch_at, ch_patch, ch_file, .ref flA, ch_adds, ch_files])), (flA, .inl (cI, 38000, .inl flf)), (fdA, .inl (cI, 502, .inl fdf)), (dpA, .inl (cI, 8400, .inl dpf)), (fcA, .inl (cI, 502, .inl fcf))]) (w1 := [(h, .inr (9, [.ref b_y, sk_from, .ref fdA, .ref fcA, .ref dpA, sk_hashes, sk_byHash, sk_leansOn, sk_leantBy, .ref ch, sk_lines, sk_patches])), (b_y, .inl (cB, 290000, .inl f))]) hP hD [2, 3] [0, 1, 4, 5, 6] rfl rfl (by decide) (by decide) hk1 hFc hP1 hD1
  generalize H1 = H at hP hS ⊢
  have hP : va_P (dC, dI) classes [(ch, .inr (1, [ch_at, ch_patch, ch_file, .ref flA, ch_adds, ch_files])), (flA, .inl (cI, 38000, .inl flf)), (fdA, .inl (cI, 502, .inl fdf)), (dpA, .inl (cI, 8400, .inl dpf)), (fcA, .inl (cI, 502, .inl fcf)), (h, .inr (9, [.ref b_y, sk_from, .ref fdA, .ref fcA, .ref dpA, sk_hashes, sk_byHash, sk_leansOn, sk_leantBy, .ref ch, sk_lines, sk_patches])), (b_y, .inl (cB, 290000, .inl f))] H := hP
  have hD : va_D A [(ch, .inr (1, [ch_at, ch_patch, ch_file, .ref flA, ch_adds, ch_files])), (flA, .inl (cI, 38000, .inl flf)), (fdA, .inl (cI, 502, .inl fdf)), (dpA, .inl (cI, 8400, .inl dpf)), (fcA, .inl (cI, 502, .inl fcf)), (h, .inr (9, [.ref b_y, sk_from, .ref fdA, .ref fcA, .ref dpA, sk_hashes, sk_byHash, sk_leansOn, sk_leantBy, .ref ch, sk_lines, sk_patches])), (b_y, .inl (cB, 290000, .inl f))] := hD
  subst hw
  have htw9 := tw_lt f (k + 4)
  refine lv_iadd hx hb d_St_lineNamed_21 ?_
  refine lv_topi (fun x_3 ex_3 => ?_)
  obtain rfl : x_3 = nI (L0 + (tw f (k + 4))) := by rw [ex_3]; first | done | (exact nI_add _ _)
  have hP := hP.sub (ws' := [(h, .inr (9, [.ref b_y, sk_from, .ref fdA, .ref fcA, .ref dpA, sk_hashes, sk_byHash, sk_leansOn, sk_leantBy, .ref ch, sk_lines, sk_patches])), (b_y, .inl (cB, 290000, .inl f)), (fdA, .inl (cI, 502, .inl fdf)), (dpA, .inl (cI, 8400, .inl dpf)), (fcA, .inl (cI, 502, .inl fcf)), (ch, .inr (1, [ch_at, ch_patch, ch_file, .ref flA, ch_adds, ch_files])), (flA, .inl (cI, 38000, .inl flf))]) [5, 6, 2, 3, 4, 0, 1] rfl
  have hD := hD.sub (ws' := [(h, .inr (9, [.ref b_y, sk_from, .ref fdA, .ref fcA, .ref dpA, sk_hashes, sk_byHash, sk_leansOn, sk_leantBy, .ref ch, sk_lines, sk_patches])), (b_y, .inl (cB, 290000, .inl f)), (fdA, .inl (cI, 502, .inl fdf)), (dpA, .inl (cI, 8400, .inl dpf)), (fcA, .inl (cI, 502, .inl fcf)), (ch, .inr (1, [ch_at, ch_patch, ch_file, .ref flA, ch_adds, ch_files])), (flA, .inl (cI, 38000, .inl flf))]) [5, 6, 2, 3, 4, 0, 1] (by decide) rfl
  exact W.iret (v := nI (L0 + (tw f (k + 4)))) hx hb hr (fun t ht hW => ⟨⟨_, (), rfl, rfl, by rw [ht]; exact hP, va_K.moved hW.alike hK, hD⟩, hS.F ht⟩) hS.2.2 d_St_lineNamed_22
set_option maxHeartbeats 4000000 in
set_option maxRecDepth 100000 in
/-- the line of an up or down -/
theorem m_St_lineOrNone (l : Launch) (dC : Nat → ClassId) (dI : Nat → Nat → Nat) (cI cB cL cZ cR : ClassId) (h b_y fdA dpA fcA ch flA : Nat) (sk_from sk_hashes sk_byHash sk_leansOn sk_leantBy sk_lines sk_patches ch_at ch_patch ch_file ch_adds ch_files : Value) (f fdf dpf fcf flf : Nat → Int32) (pp k O Cc L0 : Nat) (sz : Nat) (hk : k + 6 < 290000) (hpp : pp < 502) (gO : ¬ f k = 0 → ownR f fdf dpf pp (k + 1) O) (hO2 : O < 502) (hC : fcf O = nI Cc) (hc2 : ¬ f k = 0 → Cc + tw f (k + 1 + 2) < 38000) (hL0 : ¬ f k = 0 → flf (Cc + tw f (k + 1 + 2)) = nI L0) : Met l y_St_lineOrNone ws_St_lineOrNone ({ frames := 3, cells := 0, slots := 0, locals := 140 }) (xw_Pc dC dI [(cI, .int), (cB, .byte), (cL, .long), (cZ, .boolean), (cR, .object "PatchStore$Repository")] [.ref h, .int (nI pp), .int (nI k)] [(h, .inr (9, [.ref b_y, sk_from, .ref fdA, .ref fcA, .ref dpA, sk_hashes, sk_byHash, sk_leansOn, sk_leantBy, .ref ch, sk_lines, sk_patches])), (b_y, .inl (cB, 290000, .inl f)), (fdA, .inl (cI, 502, .inl fdf)), (dpA, .inl (cI, 8400, .inl dpf)), (fcA, .inl (cI, 502, .inl fcf)), (ch, .inr (1, [ch_at, ch_patch, ch_file, .ref flA, ch_adds, ch_files])), (flA, .inl (cI, 38000, .inl flf))] sz) (va_Qi (fun (r : Int32) (_ : Unit) => (f k = 0 ∧ r = -1) ∨ (¬ f k = 0 ∧ r = nI (L0 + tw f (k + 1 + 4)))) (fun _ t => xw_B dC dI [(cI, .int), (cB, .byte), (cL, .long), (cZ, .boolean), (cR, .object "PatchStore$Repository")] (va_A [(h, .inr (9, [.ref b_y, sk_from, .ref fdA, .ref fcA, .ref dpA, sk_hashes, sk_byHash, sk_leansOn, sk_leantBy, .ref ch, sk_lines, sk_patches])), (b_y, .inl (cB, 290000, .inl f)), (fdA, .inl (cI, 502, .inl fdf)), (dpA, .inl (cI, 8400, .inl dpf)), (fcA, .inl (cI, 502, .inl fcf)), (ch, .inr (1, [ch_at, ch_patch, ch_file, .ref flA, ch_adds, ch_files])), (flA, .inl (cI, 38000, .inl flf))] sz) [(h, .inr (9, [.ref b_y, sk_from, .ref fdA, .ref fcA, .ref dpA, sk_hashes, sk_byHash, sk_leansOn, sk_leantBy, .ref ch, sk_lines, sk_patches])), (b_y, .inl (cB, 290000, .inl f)), (fdA, .inl (cI, 502, .inl fdf)), (dpA, .inl (cI, 8400, .inl dpf)), (fcA, .inl (cI, 502, .inl fcf)), (ch, .inr (1, [ch_at, ch_patch, ch_file, .ref flA, ch_adds, ch_files])), (flA, .inl (cI, 38000, .inl flf))] t) (va_A [(h, .inr (9, [.ref b_y, sk_from, .ref fdA, .ref fcA, .ref dpA, sk_hashes, sk_byHash, sk_leansOn, sk_leantBy, .ref ch, sk_lines, sk_patches])), (b_y, .inl (cB, 290000, .inl f)), (fdA, .inl (cI, 502, .inl fdf)), (dpA, .inl (cI, 8400, .inl dpf)), (fcA, .inl (cI, 502, .inl fcf)), (ch, .inr (1, [ch_at, ch_patch, ch_file, .ref flA, ch_adds, ch_files])), (flA, .inl (cI, 38000, .inl flf))] sz)) 0 0 (va_A [(h, .inr (9, [.ref b_y, sk_from, .ref fdA, .ref fcA, .ref dpA, sk_hashes, sk_byHash, sk_leansOn, sk_leantBy, .ref ch, sk_lines, sk_patches])), (b_y, .inl (cB, 290000, .inl f)), (fdA, .inl (cI, 502, .inl fdf)), (dpA, .inl (cI, 8400, .inl dpf)), (fcA, .inl (cI, 502, .inl fcf)), (ch, .inr (1, [ch_at, ch_patch, ch_file, .ref flA, ch_adds, ch_files])), (flA, .inl (cI, 38000, .inl flf))] sz) := by
  refine Met.ofW (cc := prog_10_method_11_code) (maxL := 3) (ret := (Option.some Jvm.ClassFile.FieldType.int)) (by decide) rfl ?_
  intro p e s m args below meth c s₁ B hml hv
  obtain ⟨rfl, hsz, hP, hK, hD0⟩ := hv
  have hx := B.exec
  have hb := B.bytes
  have hr := B.returns
  have hts0 := atoms_spec (ws := ws_St_lineOrNone) B.pre
  have hts : ∀ w ∈ xg_1, w.before _ s = true := fun w h => hts0 w (List.mem_cons_of_mem _ h)
  have hown : s.vm.findClass "PatchStore$Stock" = some m.cls := findClass_of_methodNamed B.named
  have hlocks := B.notSynchronized
  subst hsz
  have hD := hD0.self (sz := s.heap.size)
  generalize hAe : va_A [(h, .inr (9, [.ref b_y, sk_from, .ref fdA, .ref fcA, .ref dpA, sk_hashes, sk_byHash, sk_leansOn, sk_leantBy, .ref ch, sk_lines, sk_patches])), (b_y, .inl (cB, 290000, .inl f)), (fdA, .inl (cI, 502, .inl fdf)), (dpA, .inl (cI, 8400, .inl dpf)), (fcA, .inl (cI, 502, .inl fcf)), (ch, .inr (1, [ch_at, ch_patch, ch_file, .ref flA, ch_adds, ch_files])), (flA, .inl (cI, 38000, .inl flf))] s.heap.size = A at hD ⊢
  have hA : ∀ q : Nat, s.heap.size ≤ q → A q := fun q h => by rw [← hAe]; exact Or.inr h
  have hS : va_S A s.heap s.heap [] := va_S.rf
  have hl := lv_entry ([.ref h, .int (nI pp), .int (nI k)]) (n := 3) (Nat.le_of_ble_eq_true rfl)
  rw [lg_entry_eq]
  generalize (lg_sl ([.ref h, .int (nI pp), .int (nI k)]) ++ List.replicate (3 - (lg_sl ([.ref h, .int (nI pp), .int (nI k)])).length) Slot.unset).toArray = ls at hl ⊢
  have hl : lv_has ls 3 [(0, .ref h), (1, .int (nI pp)), (2, .int (nI k))] := hl
  refine lv_aload_n hx hb d_St_lineOrNone_0 rfl (lv_at hl 0 rfl) ?_
  refine va_get (D := (dC, dI)) (ci := 9) (v := .ref b_y) (C := R_St) (T := F_St) (N := 12) hx hb hts i_St hown hK hP 0 rfl rfl 0 (by decide) (hts _ gw_182) (fun _ h9 => h9) rfl d_St_lineOrNone_1 ?_
  refine lv_iload_n hx hb d_St_lineOrNone_4 rfl (lv_at hl 2 rfl) ?_
  refine va_bald hx hb hK hP 1 1 rfl rfl (vp_in_nI (by omega) (by omega)) d_St_lineOrNone_5 ?_
  rw [show (nI k).toNatClampNeg = k from nI_clamp (by omega)]
  refine lv_if_ne (tgt := 13) hx hb d_St_lineOrNone_6 (by decide) (fun c_6 => ?_) (fun c_6 => ?_)
  · refine lv_aload_n hx hb d_St_lineOrNone_13 rfl (lv_at hl 0 rfl) ?_
    refine lv_iload_n hx hb d_St_lineOrNone_14 rfl (lv_at hl 1 rfl) ?_
    refine lv_iload_n hx hb d_St_lineOrNone_15 rfl (lv_at hl 2 rfl) ?_
    refine lv_iconst (v := 1) hx hb d_St_lineOrNone_16 (by decide) ?_
    refine lv_iadd hx hb d_St_lineOrNone_17 ?_
    refine lv_topi (fun x_1 ex_1 => ?_)
    obtain rfl : x_1 = nI (k + 1) := by rw [ex_1]; first | done | (exact nI_add _ _)
    have hPc := hP.sub (ws' := [(h, .inr (9, [.ref b_y, sk_from, .ref fdA, .ref fcA, .ref dpA, sk_hashes, sk_byHash, sk_leansOn, sk_leantBy, .ref ch, sk_lines, sk_patches])), (b_y, .inl (cB, 290000, .inl f)), (fdA, .inl (cI, 502, .inl fdf)), (dpA, .inl (cI, 8400, .inl dpf)), (fcA, .inl (cI, 502, .inl fcf)), (ch, .inr (1, [ch_at, ch_patch, ch_file, .ref flA, ch_adds, ch_files])), (flA, .inl (cI, 38000, .inl flf))]) [0, 1, 2, 3, 4, 5, 6] rfl
    have hDc := hD.sub (ws' := [(h, .inr (9, [.ref b_y, sk_from, .ref fdA, .ref fcA, .ref dpA, sk_hashes, sk_byHash, sk_leansOn, sk_leantBy, .ref ch, sk_lines, sk_patches])), (b_y, .inl (cB, 290000, .inl f)), (fdA, .inl (cI, 502, .inl fdf)), (dpA, .inl (cI, 8400, .inl dpf)), (fcA, .inl (cI, 502, .inl fcf)), (ch, .inr (1, [ch_at, ch_patch, ch_file, .ref flA, ch_adds, ch_files])), (flA, .inl (cI, 38000, .inl flf))]) [0, 1, 2, 3, 4, 5, 6] (by decide) rfl
    have hFc := va_free (wc := [(h, .inr (9, [.ref b_y, sk_from, .ref fdA, .ref fcA, .ref dpA, sk_hashes, sk_byHash, sk_leansOn, sk_leantBy, .ref ch, sk_lines, sk_patches])), (b_y, .inl (cB, 290000, .inl f)), (fdA, .inl (cI, 502, .inl fdf)), (dpA, .inl (cI, 8400, .inl dpf)), (fcA, .inl (cI, 502, .inl fcf)), (ch, .inr (1, [ch_at, ch_patch, ch_file, .ref flA, ch_adds, ch_files])), (flA, .inl (cI, 38000, .inl flf))]) hD hS hA [0, 1, 2, 3, 4, 5, 6] rfl
    refine va_calli (va_runV (As := [.int (nI pp), .int (nI (k + 1))]) (rest := []) ⟨hx, hb, hml, hown, hts⟩ (m_St_lineNamed l dC dI cI cB cL cZ cR h b_y fdA dpA fcA ch flA (sk_from) (sk_hashes) (sk_byHash) (sk_leansOn) (sk_leantBy) (sk_lines) (sk_patches) (ch_at) (ch_patch) (ch_file) (ch_adds) (ch_files) f fdf dpf fcf flf pp (k + 1) O Cc L0 s.heap.size (by omega) hpp (gO c_6) hO2 hC (hc2 c_6) (hL0 c_6)) (cwV 2 hts (xg_V gw_965 gw_928 gw_929 gw_3 gw_930) rfl rfl rfl (by decide +kernel) ⟨Nat.le_of_ble_eq_true rfl, Nat.le_of_ble_eq_true rfl⟩) ⟨xw_blind, va_recv hK hPc (ci := 9) (q0 := 0) rfl rfl, fun U hU hW => ⟨rfl, by rw [hU], by rw [hU]; exact hPc, va_K.moved hW.alike hK, hDc.weaken (fun _ _ _ _ => trivial)⟩⟩ rfl rfl hl.1 rfl (lv_room (Nat.le_of_ble_eq_true rfl)) d_St_lineOrNone_18 ⟨Nat.le_of_ble_eq_true rfl, Nat.le_of_ble_eq_true rfl⟩) hS (fun q _ h => hFc q h) hFc (fun r9 u t H1 locs ht hvm hw hB hz1 hk1 hS => ?_)
    obtain ⟨hP1, hK1, hD1⟩ := hB
    rw [ht] at hP1
    obtain ⟨hP, hD⟩ := va_join (wr := []) (w1 := [(h, .inr (9, [.ref b_y, sk_from, .ref fdA, .ref fcA, .ref dpA, sk_hashes, sk_byHash, sk_leansOn, sk_leantBy, .ref ch, sk_lines, sk_patches])), (b_y, .inl (cB, 290000, .inl f)), (fdA, .inl (cI, 502, .inl fdf)), (dpA, .inl (cI, 8400, .inl dpf)), (fcA, .inl (cI, 502, .inl fcf)), (ch, .inr (1, [ch_at, ch_patch, ch_file, .ref flA, ch_adds, ch_files])), (flA, .inl (cI, 38000, .inl flf))]) hP hD [0, 1, 2, 3, 4, 5, 6] [] rfl rfl (by decide) (by decide) hk1 hFc hP1 hD1
    generalize H1 = H at hP hS ⊢
    have hP : va_P (dC, dI) classes [(h, .inr (9, [.ref b_y, sk_from, .ref fdA, .ref fcA, .ref dpA, sk_hashes, sk_byHash, sk_leansOn, sk_leantBy, .ref ch, sk_lines, sk_patches])), (b_y, .inl (cB, 290000, .inl f)), (fdA, .inl (cI, 502, .inl fdf)), (dpA, .inl (cI, 8400, .inl dpf)), (fcA, .inl (cI, 502, .inl fcf)), (ch, .inr (1, [ch_at, ch_patch, ch_file, .ref flA, ch_adds, ch_files])), (flA, .inl (cI, 38000, .inl flf))] H := hP
    have hD : va_D A [(h, .inr (9, [.ref b_y, sk_from, .ref fdA, .ref fcA, .ref dpA, sk_hashes, sk_byHash, sk_leansOn, sk_leantBy, .ref ch, sk_lines, sk_patches])), (b_y, .inl (cB, 290000, .inl f)), (fdA, .inl (cI, 502, .inl fdf)), (dpA, .inl (cI, 8400, .inl dpf)), (fcA, .inl (cI, 502, .inl fcf)), (ch, .inr (1, [ch_at, ch_patch, ch_file, .ref flA, ch_adds, ch_files])), (flA, .inl (cI, 38000, .inl flf))] := hD
    subst hw
    exact W.iret (v := nI (L0 + tw f (k + 1 + 4))) hx hb hr (fun t ht hW => ⟨⟨_, (), rfl, Or.inr ⟨c_6, rfl⟩, by rw [ht]; exact hP, va_K.moved hW.alike hK, hD⟩, hS.F ht⟩) hS.2.2 d_St_lineOrNone_21
  · refine lv_iconst (v := (-1)) hx hb d_St_lineOrNone_9 (by decide) ?_
    refine lv_goto (tgt := 21) hx hb d_St_lineOrNone_10 (by decide) ?_
    exact W.iret (v := (-1)) hx hb hr (fun t ht hW => ⟨⟨_, (), rfl, Or.inl ⟨c_6, rfl⟩, by rw [ht]; exact hP, va_K.moved hW.alike hK, hD⟩, hS.F ht⟩) hS.2.2 d_St_lineOrNone_21
set_option maxHeartbeats 4000000 in
set_option maxRecDepth 100000 in
/-- aboutLine -/
theorem m_St_aboutLine (l : Launch) (dC : Nat → ClassId) (dI : Nat → Nat → Nat) (cI cB cL cZ cR : ClassId) (h fcA ch cpA ln llA lcA lpA : Nat) (sk_bytes sk_from sk_firstDependency sk_dependencies sk_hashes sk_byHash sk_leansOn sk_leantBy sk_patches ch_at ch_file ch_firstLine ch_adds ch_files ln_at ln_up ln_down ln_ofFile ln_total : Value) (fcf cpf llf lcf lpf : Nat → Int32) (k Cc pp F0 : Nat) (wh : Int32) (sz : Nat) (hk : k < 4000) (hC : lcf k = nI Cc) (hC2 : Cc < 38000) (hp : cpf Cc = nI pp) (hp2 : pp < 502) (hF0 : fcf pp = nI F0) (hle : F0 ≤ Cc) : Met l y_St_aboutLine ws_St_aboutLine ({ frames := 0, cells := 0, slots := 0, locals := 0 }) (xw_Pc dC dI [(cI, .int), (cB, .byte), (cL, .long), (cZ, .boolean), (cR, .object "PatchStore$Repository")] [.ref h, .int (nI k), .int wh] [(h, .inr (9, [sk_bytes, sk_from, sk_firstDependency, .ref fcA, sk_dependencies, sk_hashes, sk_byHash, sk_leansOn, sk_leantBy, .ref ch, .ref ln, sk_patches])), (fcA, .inl (cI, 502, .inl fcf)), (ch, .inr (1, [ch_at, .ref cpA, ch_file, ch_firstLine, ch_adds, ch_files])), (cpA, .inl (cI, 38000, .inl cpf)), (ln, .inr (4, [ln_at, .ref llA, .ref lcA, .ref lpA, ln_up, ln_down, ln_ofFile, ln_total])), (llA, .inl (cI, 4000, .inl llf)), (lcA, .inl (cI, 4000, .inl lcf)), (lpA, .inl (cI, 4000, .inl lpf))] sz) (va_Qi (fun (r : Int32) (_ : Unit) => r = if wh = -3 then nI (Cc - F0) else if wh = -2 then nI pp else if wh = -1 then llf k else lpf k) (fun _ t => xw_B dC dI [(cI, .int), (cB, .byte), (cL, .long), (cZ, .boolean), (cR, .object "PatchStore$Repository")] (va_A [(h, .inr (9, [sk_bytes, sk_from, sk_firstDependency, .ref fcA, sk_dependencies, sk_hashes, sk_byHash, sk_leansOn, sk_leantBy, .ref ch, .ref ln, sk_patches])), (fcA, .inl (cI, 502, .inl fcf)), (ch, .inr (1, [ch_at, .ref cpA, ch_file, ch_firstLine, ch_adds, ch_files])), (cpA, .inl (cI, 38000, .inl cpf)), (ln, .inr (4, [ln_at, .ref llA, .ref lcA, .ref lpA, ln_up, ln_down, ln_ofFile, ln_total])), (llA, .inl (cI, 4000, .inl llf)), (lcA, .inl (cI, 4000, .inl lcf)), (lpA, .inl (cI, 4000, .inl lpf))] sz) [(h, .inr (9, [sk_bytes, sk_from, sk_firstDependency, .ref fcA, sk_dependencies, sk_hashes, sk_byHash, sk_leansOn, sk_leantBy, .ref ch, .ref ln, sk_patches])), (fcA, .inl (cI, 502, .inl fcf)), (ch, .inr (1, [ch_at, .ref cpA, ch_file, ch_firstLine, ch_adds, ch_files])), (cpA, .inl (cI, 38000, .inl cpf)), (ln, .inr (4, [ln_at, .ref llA, .ref lcA, .ref lpA, ln_up, ln_down, ln_ofFile, ln_total])), (llA, .inl (cI, 4000, .inl llf)), (lcA, .inl (cI, 4000, .inl lcf)), (lpA, .inl (cI, 4000, .inl lpf))] t) (va_A [(h, .inr (9, [sk_bytes, sk_from, sk_firstDependency, .ref fcA, sk_dependencies, sk_hashes, sk_byHash, sk_leansOn, sk_leantBy, .ref ch, .ref ln, sk_patches])), (fcA, .inl (cI, 502, .inl fcf)), (ch, .inr (1, [ch_at, .ref cpA, ch_file, ch_firstLine, ch_adds, ch_files])), (cpA, .inl (cI, 38000, .inl cpf)), (ln, .inr (4, [ln_at, .ref llA, .ref lcA, .ref lpA, ln_up, ln_down, ln_ofFile, ln_total])), (llA, .inl (cI, 4000, .inl llf)), (lcA, .inl (cI, 4000, .inl lcf)), (lpA, .inl (cI, 4000, .inl lpf))] sz)) 0 0 (va_A [(h, .inr (9, [sk_bytes, sk_from, sk_firstDependency, .ref fcA, sk_dependencies, sk_hashes, sk_byHash, sk_leansOn, sk_leantBy, .ref ch, .ref ln, sk_patches])), (fcA, .inl (cI, 502, .inl fcf)), (ch, .inr (1, [ch_at, .ref cpA, ch_file, ch_firstLine, ch_adds, ch_files])), (cpA, .inl (cI, 38000, .inl cpf)), (ln, .inr (4, [ln_at, .ref llA, .ref lcA, .ref lpA, ln_up, ln_down, ln_ofFile, ln_total])), (llA, .inl (cI, 4000, .inl llf)), (lcA, .inl (cI, 4000, .inl lcf)), (lpA, .inl (cI, 4000, .inl lpf))] sz) := by
  refine Met.ofW (cc := prog_10_method_12_code) (maxL := 5) (ret := (Option.some Jvm.ClassFile.FieldType.int)) (by decide) rfl ?_
  intro p e s m args below meth c s₁ B hml hv
  obtain ⟨rfl, hsz, hP, hK, hD0⟩ := hv
  have hx := B.exec
  have hb := B.bytes
  have hr := B.returns
  have hts0 := atoms_spec (ws := ws_St_aboutLine) B.pre
  have hts : ∀ w ∈ xg_1, w.before _ s = true := fun w h => hts0 w (List.mem_cons_of_mem _ h)
  have hown : s.vm.findClass "PatchStore$Stock" = some m.cls := findClass_of_methodNamed B.named
  have hlocks := B.notSynchronized
  subst hsz
  have hD := hD0.self (sz := s.heap.size)
  generalize hAe : va_A [(h, .inr (9, [sk_bytes, sk_from, sk_firstDependency, .ref fcA, sk_dependencies, sk_hashes, sk_byHash, sk_leansOn, sk_leantBy, .ref ch, .ref ln, sk_patches])), (fcA, .inl (cI, 502, .inl fcf)), (ch, .inr (1, [ch_at, .ref cpA, ch_file, ch_firstLine, ch_adds, ch_files])), (cpA, .inl (cI, 38000, .inl cpf)), (ln, .inr (4, [ln_at, .ref llA, .ref lcA, .ref lpA, ln_up, ln_down, ln_ofFile, ln_total])), (llA, .inl (cI, 4000, .inl llf)), (lcA, .inl (cI, 4000, .inl lcf)), (lpA, .inl (cI, 4000, .inl lpf))] s.heap.size = A at hD ⊢
  have hA : ∀ q : Nat, s.heap.size ≤ q → A q := fun q h => by rw [← hAe]; exact Or.inr h
  have hS : va_S A s.heap s.heap [] := va_S.rf
  have hl := lv_entry ([.ref h, .int (nI k), .int wh]) (n := 5) (Nat.le_of_ble_eq_true rfl)
  rw [lg_entry_eq]
  generalize (lg_sl ([.ref h, .int (nI k), .int wh]) ++ List.replicate (5 - (lg_sl ([.ref h, .int (nI k), .int wh])).length) Slot.unset).toArray = ls at hl ⊢
  have hl : lv_has ls 5 [(0, .ref h), (1, .int (nI k)), (2, .int wh)] := hl
  refine lv_aload_n hx hb d_St_aboutLine_0 rfl (lv_at hl 0 rfl) ?_
  refine va_get (D := (dC, dI)) (ci := 9) (v := .ref ln) (C := R_St) (T := F_St) (N := 12) hx hb hts i_St hown hK hP 0 rfl rfl 10 (by decide) (hts _ gw_231) (fun _ h9 => h9) rfl d_St_aboutLine_1 ?_
  refine va_get (D := (dC, dI)) (ci := 4) (v := .ref lcA) (C := R_Li) (T := F_Li) (N := 8) hx hb hts i_Li hown hK hP 4 rfl rfl 2 (by decide) (hts _ gw_146) (fun _ h9 => h9) rfl d_St_aboutLine_4 ?_
  refine lv_iload_n hx hb d_St_aboutLine_7 rfl (lv_at hl 1 rfl) ?_
  refine va_iald hx hb hK hP 6 0 rfl rfl (vp_in_nI (by omega) (by omega)) d_St_aboutLine_8 ?_
  rw [show (nI k).toNatClampNeg = k from nI_clamp (by omega)]
  refine lv_topi (fun x_1 ex_1 => ?_)
  obtain rfl : x_1 = nI Cc := by rw [ex_1]; first | done | (exact hC)
  refine lv_istore_n (lv' := [(3, .int (nI Cc)), (0, .ref h), (1, .int (nI k)), (2, .int wh)]) hx hb d_St_aboutLine_9 rfl hl (by decide) rfl (fun ls hl => ?_)
  refine lv_aload_n hx hb d_St_aboutLine_10 rfl (lv_at hl 1 rfl) ?_
  refine va_get (D := (dC, dI)) (ci := 9) (v := .ref ch) (C := R_St) (T := F_St) (N := 12) hx hb hts i_St hown hK hP 0 rfl rfl 9 (by decide) (hts _ gw_224) (fun _ h9 => h9) rfl d_St_aboutLine_11 ?_
  refine va_get (D := (dC, dI)) (ci := 1) (v := .ref cpA) (C := R_Ch) (T := F_Ch) (N := 6) hx hb hts i_Ch hown hK hP 2 rfl rfl 1 (by decide) (hts _ gw_95) (fun _ h9 => h9) rfl d_St_aboutLine_14 ?_
  refine lv_iload_n hx hb d_St_aboutLine_17 rfl (lv_at hl 0 rfl) ?_
  refine va_iald hx hb hK hP 3 0 rfl rfl (vp_in_nI (by omega) (by omega)) d_St_aboutLine_18 ?_
  rw [show (nI Cc).toNatClampNeg = Cc from nI_clamp (by omega)]
  refine lv_topi (fun x_2 ex_2 => ?_)
  obtain rfl : x_2 = nI pp := by rw [ex_2]; first | done | (exact hp)
  refine lv_istore (lv' := [(4, .int (nI pp)), (3, .int (nI Cc)), (0, .ref h), (1, .int (nI k)), (2, .int wh)]) hx hb d_St_aboutLine_19 hl (by decide) rfl (fun ls hl => ?_)
  refine lv_iload_n hx hb d_St_aboutLine_21 rfl (lv_at hl 4 rfl) ?_
  by_cases hs_22_3 : wh = (-3)
  · refine lv_topi (fun x_s e_s => ?_)
    obtain rfl : x_s = (-3) := e_s.trans hs_22_3
    refine lv_tableIn (tgt := 61) (off := 39) hx hb d_St_aboutLine_22 (by decide) (by decide) (by decide) (by decide) ?_
    refine lv_iload_n hx hb d_St_aboutLine_61 rfl (lv_at hl 1 rfl) ?_
    refine lv_aload_n hx hb d_St_aboutLine_62 rfl (lv_at hl 2 rfl) ?_
    refine va_get (D := (dC, dI)) (ci := 9) (v := .ref fcA) (C := R_St) (T := F_St) (N := 12) hx hb hts i_St hown hK hP 0 rfl rfl 3 (by decide) (hts _ gw_196) (fun _ h9 => h9) rfl d_St_aboutLine_63 ?_
    refine lv_iload hx hb d_St_aboutLine_66 (lv_at hl 0 rfl) ?_
    refine va_iald hx hb hK hP 1 0 rfl rfl (vp_in_nI (by omega) (by omega)) d_St_aboutLine_68 ?_
    rw [show (nI pp).toNatClampNeg = pp from nI_clamp (by omega)]
    refine lv_topi (fun x_3 ex_3 => ?_)
    obtain rfl : x_3 = nI F0 := by rw [ex_3]; first | done | (exact hF0)
    refine lv_isub hx hb d_St_aboutLine_69 ?_
    refine lv_topi (fun x_4 ex_4 => ?_)
    obtain rfl : x_4 = nI (Cc - F0) := by rw [ex_4]; first | done | (exact nI_subN hle)
    exact W.iret (v := nI (Cc - F0)) hx hb hr (fun t ht hW => ⟨⟨_, (), rfl, (if_pos hs_22_3).symm, by rw [ht]; exact hP, va_K.moved hW.alike hK, hD⟩, hS.F ht⟩) hS.2.2 d_St_aboutLine_70
  by_cases hs_22_2 : wh = (-2)
  · refine lv_topi (fun x_s e_s => ?_)
    obtain rfl : x_s = (-2) := e_s.trans hs_22_2
    refine lv_tableIn (tgt := 58) (off := 36) hx hb d_St_aboutLine_22 (by decide) (by decide) (by decide) (by decide) ?_
    refine lv_iload hx hb d_St_aboutLine_58 (lv_at hl 0 rfl) ?_
    exact W.iret (v := nI pp) hx hb hr (fun t ht hW => ⟨⟨_, (), rfl, by rw [if_neg hs_22_3, if_pos hs_22_2], by rw [ht]; exact hP, va_K.moved hW.alike hK, hD⟩, hS.F ht⟩) hS.2.2 d_St_aboutLine_60
  by_cases hs_22_1 : wh = (-1)
  · refine lv_topi (fun x_s e_s => ?_)
    obtain rfl : x_s = (-1) := e_s.trans hs_22_1
    refine lv_tableIn (tgt := 48) (off := 26) hx hb d_St_aboutLine_22 (by decide) (by decide) (by decide) (by decide) ?_
    refine lv_aload_n hx hb d_St_aboutLine_48 rfl (lv_at hl 2 rfl) ?_
    refine va_get (D := (dC, dI)) (ci := 9) (v := .ref ln) (C := R_St) (T := F_St) (N := 12) hx hb hts i_St hown hK hP 0 rfl rfl 10 (by decide) (hts _ gw_231) (fun _ h9 => h9) rfl d_St_aboutLine_49 ?_
    refine va_get (D := (dC, dI)) (ci := 4) (v := .ref llA) (C := R_Li) (T := F_Li) (N := 8) hx hb hts i_Li hown hK hP 4 rfl rfl 1 (by decide) (hts _ gw_140) (fun _ h9 => h9) rfl d_St_aboutLine_52 ?_
    refine lv_iload_n hx hb d_St_aboutLine_55 rfl (lv_at hl 3 rfl) ?_
    refine va_iald hx hb hK hP 5 0 rfl rfl (vp_in_nI (by omega) (by omega)) d_St_aboutLine_56 ?_
    rw [show (nI k).toNatClampNeg = k from nI_clamp (by omega)]
    exact W.iret (v := llf k) hx hb hr (fun t ht hW => ⟨⟨_, (), rfl, by rw [if_neg hs_22_3, if_neg hs_22_2, if_pos hs_22_1], by rw [ht]; exact hP, va_K.moved hW.alike hK, hD⟩, hS.F ht⟩) hS.2.2 d_St_aboutLine_57
  refine lv_tableOut (tgt := 71) hx hb d_St_aboutLine_22 (by
      have z3 : ¬ (wh : Int32).toInt = (-3) := fun z => hs_22_3 (Int32.toInt_inj.mp (z.trans (by decide)))
      have z2 : ¬ (wh : Int32).toInt = (-2) := fun z => hs_22_2 (Int32.toInt_inj.mp (z.trans (by decide)))
      have z1 : ¬ (wh : Int32).toInt = (-1) := fun z => hs_22_1 (Int32.toInt_inj.mp (z.trans (by decide)))
      omega) (by decide) ?_
  refine lv_aload_n hx hb d_St_aboutLine_71 rfl (lv_at hl 2 rfl) ?_
  refine va_get (D := (dC, dI)) (ci := 9) (v := .ref ln) (C := R_St) (T := F_St) (N := 12) hx hb hts i_St hown hK hP 0 rfl rfl 10 (by decide) (hts _ gw_231) (fun _ h9 => h9) rfl d_St_aboutLine_72 ?_
  refine va_get (D := (dC, dI)) (ci := 4) (v := .ref lpA) (C := R_Li) (T := F_Li) (N := 8) hx hb hts i_Li hown hK hP 4 rfl rfl 3 (by decide) (hts _ gw_152) (fun _ h9 => h9) rfl d_St_aboutLine_75 ?_
  refine lv_iload_n hx hb d_St_aboutLine_78 rfl (lv_at hl 3 rfl) ?_
  refine va_iald hx hb hK hP 7 0 rfl rfl (vp_in_nI (by omega) (by omega)) d_St_aboutLine_79 ?_
  rw [show (nI k).toNatClampNeg = k from nI_clamp (by omega)]
  exact W.iret (v := lpf k) hx hb hr (fun t ht hW => ⟨⟨_, (), rfl, by rw [if_neg hs_22_3, if_neg hs_22_2, if_neg hs_22_1], by rw [ht]; exact hP, va_K.moved hW.alike hK, hD⟩, hS.F ht⟩) hS.2.2 d_St_aboutLine_80
