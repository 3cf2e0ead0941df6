section
/-! 58.refs.lean.txt -/
theorem gw_95 : (Jvm.Cond.fieldLink "PatchStore$Stock" (96 : Nat) "PatchStore$Changes" "patch" "[I") ∈ xg_1 := xg_s1 95 rfl rfl
theorem gw_106 : (Jvm.Cond.fieldLink "PatchStore$Stock" (83 : Nat) "PatchStore$Changes" "firstLine" "[I") ∈ xg_1 := xg_s1 106 rfl rfl
theorem gw_140 : (Jvm.Cond.fieldLink "PatchStore$Stock" (99 : Nat) "PatchStore$Lines" "length" "[I") ∈ xg_1 := xg_s1 140 rfl rfl
theorem gw_146 : (Jvm.Cond.fieldLink "PatchStore$Stock" (93 : Nat) "PatchStore$Lines" "change" "[I") ∈ xg_1 := xg_s1 146 rfl rfl
theorem gw_152 : (Jvm.Cond.fieldLink "PatchStore$Stock" (102 : Nat) "PatchStore$Lines" "place" "[I") ∈ xg_1 := xg_s1 152 rfl rfl
theorem gw_928 : (Jvm.Cond.instanceMethod ({ cls := "PatchStore$Stock", name := "lineNamed", desc := "(II)I" } : Jvm.MethodName)) ∈ xg_1 := xg_s4 208 rfl rfl
theorem gw_929 : (Jvm.Cond.selects "PatchStore$Stock" ({ cls := "PatchStore$Stock", name := "lineNamed", desc := "(II)I" } : Jvm.MethodName) ({ cls := "PatchStore$Stock", name := "lineNamed", desc := "(II)I" } : Jvm.MethodName)) ∈ xg_1 := xg_s4 209 rfl rfl
theorem gw_930 : (Jvm.Cond.code ({ cls := "PatchStore$Stock", name := "lineNamed", desc := "(II)I" } : Jvm.MethodName) prog_10_method_10_code (3 : Nat) (Option.some Jvm.ClassFile.FieldType.int)) ∈ xg_1 := xg_s4 210 rfl rfl
theorem gw_931 : (Jvm.Cond.methodLink "PatchStore$Stock" (86 : Nat) ({ cls := "PatchStore$Stock", name := "changeNamed", desc := "(II)I" } : Jvm.MethodName)) ∈ xg_1 := xg_s4 211 rfl rfl
theorem gw_932 : (Jvm.Cond.instanceMethod ({ cls := "PatchStore$Stock", name := "changeNamed", desc := "(II)I" } : Jvm.MethodName)) ∈ xg_1 := xg_s4 212 rfl rfl
theorem gw_933 : (Jvm.Cond.selects "PatchStore$Stock" ({ cls := "PatchStore$Stock", name := "changeNamed", desc := "(II)I" } : Jvm.MethodName) ({ cls := "PatchStore$Stock", name := "changeNamed", desc := "(II)I" } : Jvm.MethodName)) ∈ xg_1 := xg_s4 213 rfl rfl
theorem gw_934 : (Jvm.Cond.code ({ cls := "PatchStore$Stock", name := "changeNamed", desc := "(II)I" } : Jvm.MethodName) prog_10_method_9_code (5 : Nat) (Option.some Jvm.ClassFile.FieldType.int)) ∈ xg_1 := xg_s4 214 rfl rfl
theorem gw_935 : (Jvm.Cond.methodLink "PatchStore$Stock" (79 : Nat) ({ cls := "PatchStore$Stock", name := "two", desc := "(I)I" } : Jvm.MethodName)) ∈ xg_1 := xg_s4 215 rfl rfl
theorem gw_936 : (Jvm.Cond.constant "PatchStore$Stock" (82 : Nat) (65535 : Int32)) ∈ xg_1 := xg_s4 216 rfl rfl
theorem gw_965 : (Jvm.Cond.methodLink "PatchStore$Stock" (90 : Nat) ({ cls := "PatchStore$Stock", name := "lineNamed", desc := "(II)I" } : Jvm.MethodName)) ∈ xg_1 := xg_s5 5 rfl rfl
def y_St_changeNamed : MethodName := ⟨"PatchStore$Stock", "changeNamed", "(II)I"⟩
abbrev c_St_changeNamed : Cond := (Jvm.Cond.code ({ cls := "PatchStore$Stock", name := "changeNamed", desc := "(II)I" } : Jvm.MethodName) prog_10_method_9_code (5 : Nat) (Option.some Jvm.ClassFile.FieldType.int))
abbrev ws_St_changeNamed : List Cond := c_St_changeNamed :: xg_1
theorem d_St_changeNamed_0 : decode prog_10_method_9_code 0 = .ok (.aload_n 0, 1) := by decide +kernel
theorem d_St_changeNamed_1 : decode prog_10_method_9_code 1 = .ok (.iload_n 2, 1) := by decide +kernel
theorem d_St_changeNamed_2 : decode prog_10_method_9_code 2 = .ok (.invokevirtual 79, 3) := by decide +kernel
theorem d_St_changeNamed_5 : decode prog_10_method_9_code 5 = .ok (.istore_n 3, 1) := by decide +kernel
theorem d_St_changeNamed_6 : decode prog_10_method_9_code 6 = .ok (.iload_n 3, 1) := by decide +kernel
theorem d_St_changeNamed_7 : decode prog_10_method_9_code 7 = .ok (.ldc 82, 2) := by decide +kernel
theorem d_St_changeNamed_9 : decode prog_10_method_9_code 9 = .ok (.if_icmp .ne 7, 3) := by decide +kernel
theorem d_St_changeNamed_12 : decode prog_10_method_9_code 12 = .ok (.iload_n 1, 1) := by decide +kernel
theorem d_St_changeNamed_13 : decode prog_10_method_9_code 13 = .ok (.goto 16, 3) := by decide +kernel
theorem d_St_changeNamed_16 : decode prog_10_method_9_code 16 = .ok (.aload_n 0, 1) := by decide +kernel
theorem d_St_changeNamed_17 : decode prog_10_method_9_code 17 = .ok (.getfield 26, 3) := by decide +kernel
theorem d_St_changeNamed_20 : decode prog_10_method_9_code 20 = .ok (.aload_n 0, 1) := by decide +kernel
theorem d_St_changeNamed_21 : decode prog_10_method_9_code 21 = .ok (.getfield 20, 3) := by decide +kernel
theorem d_St_changeNamed_24 : decode prog_10_method_9_code 24 = .ok (.iload_n 1, 1) := by decide +kernel
theorem d_St_changeNamed_25 : decode prog_10_method_9_code 25 = .ok (.iaload, 1) := by decide +kernel
theorem d_St_changeNamed_26 : decode prog_10_method_9_code 26 = .ok (.iload_n 3, 1) := by decide +kernel
theorem d_St_changeNamed_27 : decode prog_10_method_9_code 27 = .ok (.iadd, 1) := by decide +kernel
theorem d_St_changeNamed_28 : decode prog_10_method_9_code 28 = .ok (.iaload, 1) := by decide +kernel
theorem d_St_changeNamed_29 : decode prog_10_method_9_code 29 = .ok (.istore 4, 2) := by decide +kernel
theorem d_St_changeNamed_31 : decode prog_10_method_9_code 31 = .ok (.aload_n 0, 1) := by decide +kernel
theorem d_St_changeNamed_32 : decode prog_10_method_9_code 32 = .ok (.getfield 23, 3) := by decide +kernel
theorem d_St_changeNamed_35 : decode prog_10_method_9_code 35 = .ok (.iload 4, 2) := by decide +kernel
theorem d_St_changeNamed_37 : decode prog_10_method_9_code 37 = .ok (.iaload, 1) := by decide +kernel
theorem d_St_changeNamed_38 : decode prog_10_method_9_code 38 = .ok (.aload_n 0, 1) := by decide +kernel
theorem d_St_changeNamed_39 : decode prog_10_method_9_code 39 = .ok (.iload_n 2, 1) := by decide +kernel
theorem d_St_changeNamed_40 : decode prog_10_method_9_code 40 = .ok (.iconst 2, 1) := by decide +kernel
theorem d_St_changeNamed_41 : decode prog_10_method_9_code 41 = .ok (.iadd, 1) := by decide +kernel
theorem d_St_changeNamed_42 : decode prog_10_method_9_code 42 = .ok (.invokevirtual 79, 3) := by decide +kernel
theorem d_St_changeNamed_45 : decode prog_10_method_9_code 45 = .ok (.iadd, 1) := by decide +kernel
theorem d_St_changeNamed_46 : decode prog_10_method_9_code 46 = .ok (.ireturn, 1) := by decide +kernel
def y_St_lineNamed : MethodName := ⟨"PatchStore$Stock", "lineNamed", "(II)I"⟩
abbrev c_St_lineNamed : Cond := (Jvm.Cond.code ({ cls := "PatchStore$Stock", name := "lineNamed", desc := "(II)I" } : Jvm.MethodName) prog_10_method_10_code (3 : Nat) (Option.some Jvm.ClassFile.FieldType.int))
abbrev ws_St_lineNamed : List Cond := c_St_lineNamed :: xg_1
theorem d_St_lineNamed_0 : decode prog_10_method_10_code 0 = .ok (.aload_n 0, 1) := by decide +kernel
theorem d_St_lineNamed_1 : decode prog_10_method_10_code 1 = .ok (.getfield 45, 3) := by decide +kernel
theorem d_St_lineNamed_4 : decode prog_10_method_10_code 4 = .ok (.getfield 83, 3) := by decide +kernel
theorem d_St_lineNamed_7 : decode prog_10_method_10_code 7 = .ok (.aload_n 0, 1) := by decide +kernel
theorem d_St_lineNamed_8 : decode prog_10_method_10_code 8 = .ok (.iload_n 1, 1) := by decide +kernel
theorem d_St_lineNamed_9 : decode prog_10_method_10_code 9 = .ok (.iload_n 2, 1) := by decide +kernel
theorem d_St_lineNamed_10 : decode prog_10_method_10_code 10 = .ok (.invokevirtual 86, 3) := by decide +kernel
theorem d_St_lineNamed_13 : decode prog_10_method_10_code 13 = .ok (.iaload, 1) := by decide +kernel
theorem d_St_lineNamed_14 : decode prog_10_method_10_code 14 = .ok (.aload_n 0, 1) := by decide +kernel
theorem d_St_lineNamed_15 : decode prog_10_method_10_code 15 = .ok (.iload_n 2, 1) := by decide +kernel
theorem d_St_lineNamed_16 : decode prog_10_method_10_code 16 = .ok (.iconst 4, 1) := by decide +kernel
theorem d_St_lineNamed_17 : decode prog_10_method_10_code 17 = .ok (.iadd, 1) := by decide +kernel
theorem d_St_lineNamed_18 : decode prog_10_method_10_code 18 = .ok (.invokevirtual 79, 3) := by decide +kernel
theorem d_St_lineNamed_21 : decode prog_10_method_10_code 21 = .ok (.iadd, 1) := by decide +kernel
theorem d_St_lineNamed_22 : decode prog_10_method_10_code 22 = .ok (.ireturn, 1) := by decide +kernel
def y_St_lineOrNone : MethodName := ⟨"PatchStore$Stock", "lineOrNone", "(II)I"⟩
abbrev c_St_lineOrNone : Cond := (Jvm.Cond.code ({ cls := "PatchStore$Stock", name := "lineOrNone", desc := "(II)I" } : Jvm.MethodName) prog_10_method_11_code (3 : Nat) (Option.some Jvm.ClassFile.FieldType.int))
abbrev ws_St_lineOrNone : List Cond := c_St_lineOrNone :: xg_1
theorem d_St_lineOrNone_0 : decode prog_10_method_11_code 0 = .ok (.aload_n 0, 1) := by decide +kernel
theorem d_St_lineOrNone_1 : decode prog_10_method_11_code 1 = .ok (.getfield 10, 3) := by decide +kernel
theorem d_St_lineOrNone_4 : decode prog_10_method_11_code 4 = .ok (.iload_n 2, 1) := by decide +kernel
theorem d_St_lineOrNone_5 : decode prog_10_method_11_code 5 = .ok (.baload, 1) := by decide +kernel
theorem d_St_lineOrNone_6 : decode prog_10_method_11_code 6 = .ok (.ifCond .ne 7, 3) := by decide +kernel
theorem d_St_lineOrNone_9 : decode prog_10_method_11_code 9 = .ok (.iconst (-1), 1) := by decide +kernel
theorem d_St_lineOrNone_10 : decode prog_10_method_11_code 10 = .ok (.goto 11, 3) := by decide +kernel
theorem d_St_lineOrNone_13 : decode prog_10_method_11_code 13 = .ok (.aload_n 0, 1) := by decide +kernel
theorem d_St_lineOrNone_14 : decode prog_10_method_11_code 14 = .ok (.iload_n 1, 1) := by decide +kernel
theorem d_St_lineOrNone_15 : decode prog_10_method_11_code 15 = .ok (.iload_n 2, 1) := by decide +kernel
theorem d_St_lineOrNone_16 : decode prog_10_method_11_code 16 = .ok (.iconst 1, 1) := by decide +kernel
theorem d_St_lineOrNone_17 : decode prog_10_method_11_code 17 = .ok (.iadd, 1) := by decide +kernel
theorem d_St_lineOrNone_18 : decode prog_10_method_11_code 18 = .ok (.invokevirtual 90, 3) := by decide +kernel
theorem d_St_lineOrNone_21 : decode prog_10_method_11_code 21 = .ok (.ireturn, 1) := by decide +kernel
def y_St_aboutLine : MethodName := ⟨"PatchStore$Stock", "aboutLine", "(II)I"⟩
abbrev c_St_aboutLine : Cond := (Jvm.Cond.code ({ cls := "PatchStore$Stock", name := "aboutLine", desc := "(II)I" } : Jvm.MethodName) prog_10_method_12_code (5 : Nat) (Option.some Jvm.ClassFile.FieldType.int))
abbrev ws_St_aboutLine : List Cond := c_St_aboutLine :: xg_1
theorem d_St_aboutLine_0 : decode prog_10_method_12_code 0 = .ok (.aload_n 0, 1) := by decide +kernel
theorem d_St_aboutLine_1 : decode prog_10_method_12_code 1 = .ok (.getfield 52, 3) := by decide +kernel
theorem d_St_aboutLine_4 : decode prog_10_method_12_code 4 = .ok (.getfield 93, 3) := by decide +kernel
theorem d_St_aboutLine_7 : decode prog_10_method_12_code 7 = .ok (.iload_n 1, 1) := by decide +kernel
theorem d_St_aboutLine_8 : decode prog_10_method_12_code 8 = .ok (.iaload, 1) := by decide +kernel
theorem d_St_aboutLine_9 : decode prog_10_method_12_code 9 = .ok (.istore_n 3, 1) := by decide +kernel
theorem d_St_aboutLine_10 : decode prog_10_method_12_code 10 = .ok (.aload_n 0, 1) := by decide +kernel
theorem d_St_aboutLine_11 : decode prog_10_method_12_code 11 = .ok (.getfield 45, 3) := by decide +kernel
theorem d_St_aboutLine_14 : decode prog_10_method_12_code 14 = .ok (.getfield 96, 3) := by decide +kernel
theorem d_St_aboutLine_17 : decode prog_10_method_12_code 17 = .ok (.iload_n 3, 1) := by decide +kernel
theorem d_St_aboutLine_18 : decode prog_10_method_12_code 18 = .ok (.iaload, 1) := by decide +kernel
theorem d_St_aboutLine_19 : decode prog_10_method_12_code 19 = .ok (.istore 4, 2) := by decide +kernel
theorem d_St_aboutLine_21 : decode prog_10_method_12_code 21 = .ok (.iload_n 2, 1) := by decide +kernel
theorem d_St_aboutLine_22 : decode prog_10_method_12_code 22 = .ok (.tableswitch 49 (-3) (-1) #[39, 36, 26], 26) := by decide +kernel
theorem d_St_aboutLine_48 : decode prog_10_method_12_code 48 = .ok (.aload_n 0, 1) := by decide +kernel
theorem d_St_aboutLine_49 : decode prog_10_method_12_code 49 = .ok (.getfield 52, 3) := by decide +kernel
theorem d_St_aboutLine_52 : decode prog_10_method_12_code 52 = .ok (.getfield 99, 3) := by decide +kernel
theorem d_St_aboutLine_55 : decode prog_10_method_12_code 55 = .ok (.iload_n 1, 1) := by decide +kernel
theorem d_St_aboutLine_56 : decode prog_10_method_12_code 56 = .ok (.iaload, 1) := by decide +kernel
theorem d_St_aboutLine_57 : decode prog_10_method_12_code 57 = .ok (.ireturn, 1) := by decide +kernel
theorem d_St_aboutLine_58 : decode prog_10_method_12_code 58 = .ok (.iload 4, 2) := by decide +kernel
theorem d_St_aboutLine_60 : decode prog_10_method_12_code 60 = .ok (.ireturn, 1) := by decide +kernel
theorem d_St_aboutLine_61 : decode prog_10_method_12_code 61 = .ok (.iload_n 3, 1) := by decide +kernel
theorem d_St_aboutLine_62 : decode prog_10_method_12_code 62 = .ok (.aload_n 0, 1) := by decide +kernel
theorem d_St_aboutLine_63 : decode prog_10_method_12_code 63 = .ok (.getfield 23, 3) := by decide +kernel
theorem d_St_aboutLine_66 : decode prog_10_method_12_code 66 = .ok (.iload 4, 2) := by decide +kernel
theorem d_St_aboutLine_68 : decode prog_10_method_12_code 68 = .ok (.iaload, 1) := by decide +kernel
theorem d_St_aboutLine_69 : decode prog_10_method_12_code 69 = .ok (.isub, 1) := by decide +kernel
theorem d_St_aboutLine_70 : decode prog_10_method_12_code 70 = .ok (.ireturn, 1) := by decide +kernel
theorem d_St_aboutLine_71 : decode prog_10_method_12_code 71 = .ok (.aload_n 0, 1) := by decide +kernel
theorem d_St_aboutLine_72 : decode prog_10_method_12_code 72 = .ok (.getfield 52, 3) := by decide +kernel
theorem d_St_aboutLine_75 : decode prog_10_method_12_code 75 = .ok (.getfield 102, 3) := by decide +kernel
theorem d_St_aboutLine_78 : decode prog_10_method_12_code 78 = .ok (.iload_n 1, 1) := by decide +kernel
theorem d_St_aboutLine_79 : decode prog_10_method_12_code 79 = .ok (.iaload, 1) := by decide +kernel
theorem d_St_aboutLine_80 : decode prog_10_method_12_code 80 = .ok (.ireturn, 1) := by decide +kernel
/-- the patch that the ref at k in patch pp names -/
def ownR (f fdf dpf : Nat → Int32) (pp k O : Nat) : Prop := (tw f k = 65535 ∧ O = pp) ∨ (¬ tw f k = 65535 ∧ ∃ D, fdf pp = nI D ∧ D + tw f k < 8400 ∧ dpf (D + tw f k) = nI O)
set_option maxHeartbeats 4000000 in
set_option maxRecDepth 100000 in
/-- the change that a ref names -/
theorem m_St_changeNamed (l : Launch) (dC : Nat → ClassId) (dI : Nat → Nat → Nat) (cI cB cL cZ cR : ClassId) (h b_y fdA dpA fcA : Nat) (sk_from sk_hashes sk_byHash sk_leansOn sk_leantBy sk_changes sk_lines sk_patches : Value) (f fdf dpf fcf : Nat → Int32) (pp k O Cc : Nat) (sz : Nat) (hk : k + 3 < 290000) (hpp : pp < 502) (gO : ownR f fdf dpf pp k O) (hO2 : O < 502) (hC : fcf O = nI Cc) : Met l y_St_changeNamed ws_St_changeNamed ({ frames := 1, cells := 0, slots := 0, locals := 60 }) (xw_Pc dC dI [(cI, .int), (cB, .byte), (cL, .long), (cZ, .boolean), (cR, .object "PatchStore$Repository")] [.ref h, .int (nI pp), .int (nI k)] [(h, .inr (9, [.ref b_y, sk_from, .ref fdA, .ref fcA, .ref dpA, sk_hashes, sk_byHash, sk_leansOn, sk_leantBy, sk_changes, sk_lines, sk_patches])), (b_y, .inl (cB, 290000, .inl f)), (fdA, .inl (cI, 502, .inl fdf)), (dpA, .inl (cI, 8400, .inl dpf)), (fcA, .inl (cI, 502, .inl fcf))] sz) (va_Qi (fun (r : Int32) (_ : Unit) => r = nI (Cc + tw f (k + 2))) (fun _ t => xw_B dC dI [(cI, .int), (cB, .byte), (cL, .long), (cZ, .boolean), (cR, .object "PatchStore$Repository")] (va_A [(h, .inr (9, [.ref b_y, sk_from, .ref fdA, .ref fcA, .ref dpA, sk_hashes, sk_byHash, sk_leansOn, sk_leantBy, sk_changes, sk_lines, sk_patches])), (b_y, .inl (cB, 290000, .inl f)), (fdA, .inl (cI, 502, .inl fdf)), (dpA, .inl (cI, 8400, .inl dpf)), (fcA, .inl (cI, 502, .inl fcf))] sz) [(h, .inr (9, [.ref b_y, sk_from, .ref fdA, .ref fcA, .ref dpA, sk_hashes, sk_byHash, sk_leansOn, sk_leantBy, sk_changes, sk_lines, sk_patches])), (b_y, .inl (cB, 290000, .inl f)), (fdA, .inl (cI, 502, .inl fdf)), (dpA, .inl (cI, 8400, .inl dpf)), (fcA, .inl (cI, 502, .inl fcf))] t) (va_A [(h, .inr (9, [.ref b_y, sk_from, .ref fdA, .ref fcA, .ref dpA, sk_hashes, sk_byHash, sk_leansOn, sk_leantBy, sk_changes, sk_lines, sk_patches])), (b_y, .inl (cB, 290000, .inl f)), (fdA, .inl (cI, 502, .inl fdf)), (dpA, .inl (cI, 8400, .inl dpf)), (fcA, .inl (cI, 502, .inl fcf))] sz)) 0 0 (va_A [(h, .inr (9, [.ref b_y, sk_from, .ref fdA, .ref fcA, .ref dpA, sk_hashes, sk_byHash, sk_leansOn, sk_leantBy, sk_changes, sk_lines, sk_patches])), (b_y, .inl (cB, 290000, .inl f)), (fdA, .inl (cI, 502, .inl fdf)), (dpA, .inl (cI, 8400, .inl dpf)), (fcA, .inl (cI, 502, .inl fcf))] sz) := by
  refine Met.ofW (cc := prog_10_method_9_code) (maxL := 5) (ret := (Option.some Jvm.ClassFile.FieldType.int)) (by decide) rfl ?_
  intro p e s m args below meth c s₁ B hml hv
  obtain ⟨rfl, hsz, hP, hK, hD0⟩ := hv
  have hx := B.exec
  have hb := B.bytes
  have hr := B.returns
  have hts0 := atoms_spec (ws := ws_St_changeNamed) B.pre
  have hts : ∀ w ∈ xg_1, w.before _ s = true := fun w h => hts0 w (List.mem_cons_of_mem _ h)
  have hown : s.vm.findClass "PatchStore$Stock" = some m.cls := findClass_of_methodNamed B.named
  have hlocks := B.notSynchronized
  subst hsz
  have hD := hD0.self (sz := s.heap.size)
  generalize hAe : va_A [(h, .inr (9, [.ref b_y, sk_from, .ref fdA, .ref fcA, .ref dpA, sk_hashes, sk_byHash, sk_leansOn, sk_leantBy, sk_changes, sk_lines, sk_patches])), (b_y, .inl (cB, 290000, .inl f)), (fdA, .inl (cI, 502, .inl fdf)), (dpA, .inl (cI, 8400, .inl dpf)), (fcA, .inl (cI, 502, .inl fcf))] s.heap.size = A at hD ⊢
  have hA : ∀ q : Nat, s.heap.size ≤ q → A q := fun q h => by rw [← hAe]; exact Or.inr h
  have hS : va_S A s.heap s.heap [] := va_S.rf
  have hl := lv_entry ([.ref h, .int (nI pp), .int (nI k)]) (n := 5) (Nat.le_of_ble_eq_true rfl)
  rw [lg_entry_eq]
  generalize (lg_sl ([.ref h, .int (nI pp), .int (nI k)]) ++ List.replicate (5 - (lg_sl ([.ref h, .int (nI pp), .int (nI k)])).length) Slot.unset).toArray = ls at hl ⊢
  have hl : lv_has ls 5 [(0, .ref h), (1, .int (nI pp)), (2, .int (nI k))] := hl
  generalize hQe : MQ _ _ _ _ _ _ _ = Q
  refine lv_aload_n hx hb d_St_changeNamed_0 rfl (lv_at hl 0 rfl) ?_
  refine lv_iload_n hx hb d_St_changeNamed_1 rfl (lv_at hl 2 rfl) ?_
  have hPc := hP.sub (ws' := [(h, .inr (9, [.ref b_y, sk_from, .ref fdA, .ref fcA, .ref dpA, sk_hashes, sk_byHash, sk_leansOn, sk_leantBy, sk_changes, sk_lines, sk_patches])), (b_y, .inl (cB, 290000, .inl f))]) [0, 1] rfl
  have hDc := hD.sub (ws' := [(h, .inr (9, [.ref b_y, sk_from, .ref fdA, .ref fcA, .ref dpA, sk_hashes, sk_byHash, sk_leansOn, sk_leantBy, sk_changes, sk_lines, sk_patches])), (b_y, .inl (cB, 290000, .inl f))]) [0, 1] (by decide) rfl
  have hFc := va_free (wc := [(h, .inr (9, [.ref b_y, sk_from, .ref fdA, .ref fcA, .ref dpA, sk_hashes, sk_byHash, sk_leansOn, sk_leantBy, sk_changes, sk_lines, sk_patches])), (b_y, .inl (cB, 290000, .inl f))]) hD hS hA [0, 1] rfl
  refine va_calli (va_runV (As := [.int (nI k)]) (rest := []) ⟨hx, hb, hml, hown, hts⟩ (m_St_two l dC dI cI cB cL cZ cR h b_y (sk_from) (.ref fdA) (.ref fcA) (.ref dpA) (sk_hashes) (sk_byHash) (sk_leansOn) (sk_leantBy) (sk_changes) (sk_lines) (sk_patches) f k s.heap.size (by omega)) (cwV 1 hts (xg_V gw_935 gw_771 gw_772 gw_3 gw_773) rfl rfl rfl (by decide +kernel) ⟨Nat.le_of_ble_eq_true rfl, Nat.le_of_ble_eq_true rfl⟩) ⟨xw_blind, va_recv hK hPc (ci := 9) (q0 := 0) rfl rfl, fun U hU hW => ⟨rfl, by rw [hU], by rw [hU]; exact hPc, va_K.moved hW.alike hK, hDc.weaken (fun _ _ _ _ => trivial)⟩⟩ rfl rfl hl.1 rfl (lv_room (Nat.le_of_ble_eq_true rfl)) d_St_changeNamed_2 ⟨Nat.le_of_ble_eq_true rfl, Nat.le_of_ble_eq_true rfl⟩) hS (fun q _ h => hFc q h) hFc (fun r9 u t H1 locs ht hvm hw hB hz1 hk1 hS => ?_)
  obtain ⟨hP1, hK1, hD1⟩ := hB
  rw [ht] at hP1
  obtain ⟨hP, hD⟩ := va_join (wr := [(fdA, .inl (cI, 502, .inl fdf)), (dpA, .inl (cI, 8400, .inl dpf)), (fcA, .inl (cI, 502, .inl fcf))]) (w1 := [(h, .inr (9, [.ref b_y, sk_from, .ref fdA, .ref fcA, .ref dpA, sk_hashes, sk_byHash, sk_leansOn, sk_leantBy, sk_changes, sk_lines, sk_patches])), (b_y, .inl (cB, 290000, .inl f))]) hP hD [0, 1] [2, 3, 4] rfl rfl (by decide) (by decide) hk1 hFc hP1 hD1
  generalize H1 = H at hP hS ⊢
  have hP : va_P (dC, dI) classes [(fdA, .inl (cI, 502, .inl fdf)), (dpA, .inl (cI, 8400, .inl dpf)), (fcA, .inl (cI, 502, .inl fcf)), (h, .inr (9, [.ref b_y, sk_from, .ref fdA, .ref fcA, .ref dpA, sk_hashes, sk_byHash, sk_leansOn, sk_leantBy, sk_changes, sk_lines, sk_patches])), (b_y, .inl (cB, 290000, .inl f))] H := hP
  have hD : va_D A [(fdA, .inl (cI, 502, .inl fdf)), (dpA, .inl (cI, 8400, .inl dpf)), (fcA, .inl (cI, 502, .inl fcf)), (h, .inr (9, [.ref b_y, sk_from, .ref fdA, .ref fcA, .ref dpA, sk_hashes, sk_byHash, sk_leansOn, sk_leantBy, sk_changes, sk_lines, sk_patches])), (b_y, .inl (cB, 290000, .inl f))] := hD
  subst hw
  have htw9 := tw_lt f k
  refine lv_istore_n (lv' := [(3, .int (nI (tw f k))), (0, .ref h), (1, .int (nI pp)), (2, .int (nI k))]) hx hb d_St_changeNamed_5 rfl hl (by decide) rfl (fun ls hl => ?_)
  refine lv_iload_n hx hb d_St_changeNamed_6 rfl (lv_at hl 0 rfl) ?_
  refine lv_ldc (own := "PatchStore$Stock") hx hb hown (hts _ gw_936) d_St_changeNamed_7 ?_
  refine lv_icmp_ne (tgt := 16) hx hb d_St_changeNamed_9 (by decide) (fun c_9 => ?_) (fun c_9 => ?_)
  · have n_9 : ¬ (tw f k) = 65535 := fun z => c_9 ((nI_eq (a := (tw f k)) (b := 65535) (by omega) (by omega)).mpr z)
    obtain ⟨D, hD1, hD2, hD3⟩ : ∃ D, fdf pp = nI D ∧ D + tw f k < 8400 ∧ dpf (D + tw f k) = nI O := gO.elim (fun z => absurd z.1 n_9) (fun z => z.2)
    refine lv_aload_n hx hb d_St_changeNamed_16 rfl (lv_at hl 1 rfl) ?_
    refine va_get (D := (dC, dI)) (ci := 9) (v := .ref dpA) (C := R_St) (T := F_St) (N := 12) hx hb hts i_St hown hK hP 3 rfl rfl 4 (by decide) (hts _ gw_202) (fun _ h9 => h9) rfl d_St_changeNamed_17 ?_
    refine lv_aload_n hx hb d_St_changeNamed_20 rfl (lv_at hl 1 rfl) ?_
    refine va_get (D := (dC, dI)) (ci := 9) (v := .ref fdA) (C := R_St) (T := F_St) (N := 12) hx hb hts i_St hown hK hP 3 rfl rfl 2 (by decide) (hts _ gw_194) (fun _ h9 => h9) rfl d_St_changeNamed_21 ?_
    refine lv_iload_n hx hb d_St_changeNamed_24 rfl (lv_at hl 2 rfl) ?_
    refine va_iald hx hb hK hP 0 0 rfl rfl (vp_in_nI (by omega) (by omega)) d_St_changeNamed_25 ?_
    rw [show (nI pp).toNatClampNeg = pp from nI_clamp (by omega)]
    refine lv_topi (fun x_1 ex_1 => ?_)
    obtain rfl : x_1 = nI D := by rw [ex_1]; first | done | (exact hD1)
    refine lv_iload_n hx hb d_St_changeNamed_26 rfl (lv_at hl 0 rfl) ?_
    refine lv_iadd hx hb d_St_changeNamed_27 ?_
    refine lv_topi (fun x_2 ex_2 => ?_)
    obtain rfl : x_2 = nI (D + (tw f k)) := by rw [ex_2]; first | done | (exact nI_add _ _)
    refine va_iald hx hb hK hP 1 0 rfl rfl (vp_in_nI (by omega) (by omega)) d_St_changeNamed_28 ?_
    rw [show (nI (D + (tw f k))).toNatClampNeg = (D + (tw f k)) from nI_clamp (by omega)]
    refine lv_topi (fun x_3 ex_3 => ?_)
    obtain rfl : x_3 = nI O := by rw [ex_3]; first | done | (exact hD3)
    refine lv_istore (lv' := [(4, .int (nI O)), (3, .int (nI (tw f k))), (0, .ref h), (1, .int (nI pp)), (2, .int (nI k))]) hx hb d_St_changeNamed_29 hl (by decide) rfl (fun ls hl => ?_)
    refine lv_aload_n hx hb d_St_changeNamed_31 rfl (lv_at hl 2 rfl) ?_
    refine va_get (D := (dC, dI)) (ci := 9) (v := .ref fcA) (C := R_St) (T := F_St) (N := 12) hx hb hts i_St hown hK hP 3 rfl rfl 3 (by decide) (hts _ gw_196) (fun _ h9 => h9) rfl d_St_changeNamed_32 ?_
    refine lv_iload hx hb d_St_changeNamed_35 (lv_at hl 0 rfl) ?_
    refine va_iald hx hb hK hP 2 0 rfl rfl (vp_in_nI (by omega) (by omega)) d_St_changeNamed_37 ?_
    rw [show (nI O).toNatClampNeg = O from nI_clamp (by omega)]
    refine lv_topi (fun x_4 ex_4 => ?_)
    obtain rfl : x_4 = nI Cc := by rw [ex_4]; first | done | (exact hC)
    refine lv_aload_n hx hb d_St_changeNamed_38 rfl (lv_at hl 2 rfl) ?_
    refine lv_iload_n hx hb d_St_changeNamed_39 rfl (lv_at hl 4 rfl) ?_
    refine lv_iconst (v := 2) hx hb d_St_changeNamed_40 (by decide) ?_
    refine lv_iadd hx hb d_St_changeNamed_41 ?_
    refine lv_topi (fun x_5 ex_5 => ?_)
    obtain rfl : x_5 = nI (k + 2) := by rw [ex_5]; first | done | (exact nI_add _ _)
    have hPc := hP.sub (ws' := [(h, .inr (9, [.ref b_y, sk_from, .ref fdA, .ref fcA, .ref dpA, sk_hashes, sk_byHash, sk_leansOn, sk_leantBy, sk_changes, sk_lines, sk_patches])), (b_y, .inl (cB, 290000, .inl f))]) [3, 4] rfl
    have hDc := hD.sub (ws' := [(h, .inr (9, [.ref b_y, sk_from, .ref fdA, .ref fcA, .ref dpA, sk_hashes, sk_byHash, sk_leansOn, sk_leantBy, sk_changes, sk_lines, sk_patches])), (b_y, .inl (cB, 290000, .inl f))]) [3, 4] (by decide) rfl
    have hFc := va_free (wc := [(h, .inr (9, [.ref b_y, sk_from, .ref fdA, .ref fcA, .ref dpA, sk_hashes, sk_byHash, sk_leansOn, sk_leantBy, sk_changes, sk_lines, sk_patches])), (b_y, .inl (cB, 290000, .inl f))]) hD hS hA [3, 4] rfl
    refine va_calli (va_runV (As := [.int (nI (k + 2))]) (rest := [.int (nI Cc)]) ⟨hx, hb, hml, hown, hts⟩ (m_St_two l dC dI cI cB cL cZ cR h b_y (sk_from) (.ref fdA) (.ref fcA) (.ref dpA) (sk_hashes) (sk_byHash) (sk_leansOn) (sk_leantBy) (sk_changes) (sk_lines) (sk_patches) f (k + 2) H.size (by omega)) (cwV 1 hts (xg_V gw_935 gw_771 gw_772 gw_3 gw_773) rfl rfl rfl (by decide +kernel) ⟨Nat.le_of_ble_eq_true rfl, Nat.le_of_ble_eq_true rfl⟩) ⟨xw_blind, va_recv hK hPc (ci := 9) (q0 := 0) rfl rfl, fun U hU hW => ⟨rfl, by rw [hU], by rw [hU]; exact hPc, va_K.moved hW.alike hK, hDc.weaken (fun _ _ _ _ => trivial)⟩⟩ rfl rfl hl.1 rfl (lv_room (Nat.le_of_ble_eq_true rfl)) d_St_changeNamed_42 ⟨Nat.le_of_ble_eq_true rfl, Nat.le_of_ble_eq_true rfl⟩) hS (fun q _ h => hFc q h) hFc (fun r9 u t H1 locs ht hvm hw hB hz1 hk1 hS => ?_)
    obtain ⟨hP1, hK1, hD1⟩ := hB
    rw [ht] at hP1
    obtain ⟨hP, hD⟩ := va_join (wr := [(fdA, .inl (cI, 502, .inl fdf)), (dpA, .inl (cI, 8400, .inl dpf)), (fcA, .inl (cI, 502, .inl fcf))]) (w1 := [(h, .inr (9, [.ref b_y, sk_from, .ref fdA, .ref fcA, .ref dpA, sk_hashes, sk_byHash, sk_leansOn, sk_leantBy, sk_changes, sk_lines, sk_patches])), (b_y, .inl (cB, 290000, .inl f))]) hP hD [3, 4] [0, 1, 2] rfl rfl (by decide) (by decide) hk1 hFc hP1 hD1
    generalize H1 = H at hP hS ⊢
    have hP : va_P (dC, dI) classes [(fdA, .inl (cI, 502, .inl fdf)), (dpA, .inl (cI, 8400, .inl dpf)), (fcA, .inl (cI, 502, .inl fcf)), (h, .inr (9, [.ref b_y, sk_from, .ref fdA, .ref fcA, .ref dpA, sk_hashes, sk_byHash, sk_leansOn, sk_leantBy, sk_changes, sk_lines, sk_patches])), (b_y, .inl (cB, 290000, .inl f))] H := hP
    have hD : va_D A [(fdA, .inl (cI, 502, .inl fdf)), (dpA, .inl (cI, 8400, .inl dpf)), (fcA, .inl (cI, 502, .inl fcf)), (h, .inr (9, [.ref b_y, sk_from, .ref fdA, .ref fcA, .ref dpA, sk_hashes, sk_byHash, sk_leansOn, sk_leantBy, sk_changes, sk_lines, sk_patches])), (b_y, .inl (cB, 290000, .inl f))] := hD
    subst hw
    have htw9 := tw_lt f (k + 2)
    refine lv_iadd hx hb d_St_changeNamed_45 ?_
    refine lv_topi (fun x_6 ex_6 => ?_)
    obtain rfl : x_6 = nI (Cc + (tw f (k + 2))) := by rw [ex_6]; first | done | (exact nI_add _ _)
    have hP := hP.sub (ws' := [(h, .inr (9, [.ref b_y, sk_from, .ref fdA, .ref fcA, .ref dpA, sk_hashes, sk_byHash, sk_leansOn, sk_leantBy, sk_changes, sk_lines, sk_patches])), (b_y, .inl (cB, 290000, .inl f)), (fdA, .inl (cI, 502, .inl fdf)), (dpA, .inl (cI, 8400, .inl dpf)), (fcA, .inl (cI, 502, .inl fcf))]) [3, 4, 0, 1, 2] rfl
    have hD := hD.sub (ws' := [(h, .inr (9, [.ref b_y, sk_from, .ref fdA, .ref fcA, .ref dpA, sk_hashes, sk_byHash, sk_leansOn, sk_leantBy, sk_changes, sk_lines, sk_patches])), (b_y, .inl (cB, 290000, .inl f)), (fdA, .inl (cI, 502, .inl fdf)), (dpA, .inl (cI, 8400, .inl dpf)), (fcA, .inl (cI, 502, .inl fcf))]) [3, 4, 0, 1, 2] (by decide) rfl
    rw [← hQe]
    exact W.iret (v := nI (Cc + (tw f (k + 2)))) hx hb hr (fun t ht hW => ⟨⟨_, (), rfl, rfl, by rw [ht]; exact hP, va_K.moved hW.alike hK, hD⟩, hS.F ht⟩) hS.2.2 d_St_changeNamed_46
  · have n_9 : (tw f k) = 65535 := (nI_eq (a := (tw f k)) (b := 65535) (by omega) (by omega)).mp c_9
    have hO : O = pp := gO.elim (fun z => z.2) (fun z => absurd n_9 z.1)
    refine lv_iload_n hx hb d_St_changeNamed_12 rfl (lv_at hl 2 rfl) ?_
    refine lv_goto (tgt := 29) hx hb d_St_changeNamed_13 (by decide) ?_
    refine lv_topi (fun x_7 ex_7 => ?_)
    obtain rfl : x_7 = nI O := by rw [ex_7]; first | done | (rw [hO])
    refine lv_istore (lv' := [(4, .int (nI O)), (3, .int (nI (tw f k))), (0, .ref h), (1, .int (nI pp)), (2, .int (nI k))]) hx hb d_St_changeNamed_29 hl (by decide) rfl (fun ls hl => ?_)
    refine lv_aload_n hx hb d_St_changeNamed_31 rfl (lv_at hl 2 rfl) ?_
    refine va_get (D := (dC, dI)) (ci := 9) (v := .ref fcA) (C := R_St) (T := F_St) (N := 12) hx hb hts i_St hown hK hP 3 rfl rfl 3 (by decide) (hts _ gw_196) (fun _ h9 => h9) rfl d_St_changeNamed_32 ?_
    refine lv_iload hx hb d_St_changeNamed_35 (lv_at hl 0 rfl) ?_
    refine va_iald hx hb hK hP 2 0 rfl rfl (vp_in_nI (by omega) (by omega)) d_St_changeNamed_37 ?_
    rw [show (nI O).toNatClampNeg = O from nI_clamp (by omega)]
    refine lv_topi (fun x_8 ex_8 => ?_)
    obtain rfl : x_8 = nI Cc := by rw [ex_8]; first | done | (exact hC)
    refine lv_aload_n hx hb d_St_changeNamed_38 rfl (lv_at hl 2 rfl) ?_
    refine lv_iload_n hx hb d_St_changeNamed_39 rfl (lv_at hl 4 rfl) ?_
    refine lv_iconst (v := 2) hx hb d_St_changeNamed_40 (by decide) ?_
    refine lv_iadd hx hb d_St_changeNamed_41 ?_
    refine lv_topi (fun x_9 ex_9 => ?_)
    obtain rfl : x_9 = nI (k + 2) := by rw [ex_9]; first | done | (exact nI_add _ _)
    have hPc := hP.sub (ws' := [(h, .inr (9, [.ref b_y, sk_from, .ref fdA, .ref fcA, .ref dpA, sk_hashes, sk_byHash, sk_leansOn, sk_leantBy, sk_changes, sk_lines, sk_patches])), (b_y, .inl (cB, 290000, .inl f))]) [3, 4] rfl
    have hDc := hD.sub (ws' := [(h, .inr (9, [.ref b_y, sk_from, .ref fdA, .ref fcA, .ref dpA, sk_hashes, sk_byHash, sk_leansOn, sk_leantBy, sk_changes, sk_lines, sk_patches])), (b_y, .inl (cB, 290000, .inl f))]) [3, 4] (by decide) rfl
    have hFc := va_free (wc := [(h, .inr (9, [.ref b_y, sk_from, .ref fdA, .ref fcA, .ref dpA, sk_hashes, sk_byHash, sk_leansOn, sk_leantBy, sk_changes, sk_lines, sk_patches])), (b_y, .inl (cB, 290000, .inl f))]) hD hS hA [3, 4] rfl
    refine va_calli (va_runV (As := [.int (nI (k + 2))]) (rest := [.int (nI Cc)]) ⟨hx, hb, hml, hown, hts⟩ (m_St_two l dC dI cI cB cL cZ cR h b_y (sk_from) (.ref fdA) (.ref fcA) (.ref dpA) (sk_hashes) (sk_byHash) (sk_leansOn) (sk_leantBy) (sk_changes) (sk_lines) (sk_patches) f (k + 2) H.size (by omega)) (cwV 1 hts (xg_V gw_935 gw_771 gw_772 gw_3 gw_773) rfl rfl rfl (by decide +kernel) ⟨Nat.le_of_ble_eq_true rfl, Nat.le_of_ble_eq_true rfl⟩) ⟨xw_blind, va_recv hK hPc (ci := 9) (q0 := 0) rfl rfl, fun U hU hW => ⟨rfl, by rw [hU], by rw [hU]; exact hPc, va_K.moved hW.alike hK, hDc.weaken (fun _ _ _ _ => trivial)⟩⟩ rfl rfl hl.1 rfl (lv_room (Nat.le_of_ble_eq_true rfl)) d_St_changeNamed_42 ⟨Nat.le_of_ble_eq_true rfl, Nat.le_of_ble_eq_true rfl⟩) hS (fun q _ h => hFc q h) hFc (fun r9 u t H1 locs ht hvm hw hB hz1 hk1 hS => ?_)
    obtain ⟨hP1, hK1, hD1⟩ := hB
    rw [ht] at hP1
    obtain ⟨hP, hD⟩ := va_join (wr := [(fdA, .inl (cI, 502, .inl fdf)), (dpA, .inl (cI, 8400, .inl dpf)), (fcA, .inl (cI, 502, .inl fcf))]) (w1 := [(h, .inr (9, [.ref b_y, sk_from, .ref fdA, .ref fcA, .ref dpA, sk_hashes, sk_byHash, sk_leansOn, sk_leantBy, sk_changes, sk_lines, sk_patches])), (b_y, .inl (cB, 290000, .inl f))]) hP hD [3, 4] [0, 1, 2] rfl rfl (by decide) (by decide) hk1 hFc hP1 hD1
    generalize H1 = H at hP hS ⊢
    have hP : va_P (dC, dI) classes [(fdA, .inl (cI, 502, .inl fdf)), (dpA, .inl (cI, 8400, .inl dpf)), (fcA, .inl (cI, 502, .inl fcf)), (h, .inr (9, [.ref b_y, sk_from, .ref fdA, .ref fcA, .ref dpA, sk_hashes, sk_byHash, sk_leansOn, sk_leantBy, sk_changes, sk_lines, sk_patches])), (b_y, .inl (cB, 290000, .inl f))] H := hP
    have hD : va_D A [(fdA, .inl (cI, 502, .inl fdf)), (dpA, .inl (cI, 8400, .inl dpf)), (fcA, .inl (cI, 502, .inl fcf)), (h, .inr (9, [.ref b_y, sk_from, .ref fdA, .ref fcA, .ref dpA, sk_hashes, sk_byHash, sk_leansOn, sk_leantBy, sk_changes, sk_lines, sk_patches])), (b_y, .inl (cB, 290000, .inl f))] := hD
    subst hw
    have htw9 := tw_lt f (k + 2)
    refine lv_iadd hx hb d_St_changeNamed_45 ?_
    refine lv_topi (fun x_10 ex_10 => ?_)
    obtain rfl : x_10 = nI (Cc + (tw f (k + 2))) := by rw [ex_10]; first | done | (exact nI_add _ _)
    have hP := hP.sub (ws' := [(h, .inr (9, [.ref b_y, sk_from, .ref fdA, .ref fcA, .ref dpA, sk_hashes, sk_byHash, sk_leansOn, sk_leantBy, sk_changes, sk_lines, sk_patches])), (b_y, .inl (cB, 290000, .inl f)), (fdA, .inl (cI, 502, .inl fdf)), (dpA, .inl (cI, 8400, .inl dpf)), (fcA, .inl (cI, 502, .inl fcf))]) [3, 4, 0, 1, 2] rfl
    have hD := hD.sub (ws' := [(h, .inr (9, [.ref b_y, sk_from, .ref fdA, .ref fcA, .ref dpA, sk_hashes, sk_byHash, sk_leansOn, sk_leantBy, sk_changes, sk_lines, sk_patches])), (b_y, .inl (cB, 290000, .inl f)), (fdA, .inl (cI, 502, .inl fdf)), (dpA, .inl (cI, 8400, .inl dpf)), (fcA, .inl (cI, 502, .inl fcf))]) [3, 4, 0, 1, 2] (by decide) rfl
    rw [← hQe]
    exact W.iret (v := nI (Cc + (tw f (k + 2)))) hx hb hr (fun t ht hW => ⟨⟨_, (), rfl, rfl, by rw [ht]; exact hP, va_K.moved hW.alike hK, hD⟩, hS.F ht⟩) hS.2.2 d_St_changeNamed_46
set_option maxHeartbeats 4000000 in
set_option maxRecDepth 100000 in
/-- the line that a ref names -/
theorem m_St_lineNamed (l : Launch) (dC : Nat → ClassId) (dI : Nat → Nat → Nat) (cI cB cL cZ cR : ClassId) (h b_y fdA dpA fcA ch flA : Nat) (sk_from sk_hashes sk_byHash sk_leansOn sk_leantBy sk_lines sk_patches ch_at ch_patch ch_file ch_adds ch_files : Value) (f fdf dpf fcf flf : Nat → Int32) (pp k O Cc L0 : Nat) (sz : Nat) (hk : k + 5 < 290000) (hpp : pp < 502) (gO : ownR f fdf dpf pp k O) (hO2 : O < 502) (hC : fcf O = nI Cc) (hc2 : Cc + tw f (k + 2) < 38000) (hL0 : flf (Cc + tw f (k + 2)) = nI L0) : Met l y_St_lineNamed ws_St_lineNamed ({ frames := 2, cells := 0, slots := 0, locals := 100 }) (xw_Pc dC dI [(cI, .int), (cB, .byte), (cL, .long), (cZ, .boolean), (cR, .object "PatchStore$Repository")] [.ref h, .int (nI pp), .int (nI k)] [(h, .inr (9, [.ref b_y, sk_from, .ref fdA, .ref fcA, .ref dpA, sk_hashes, sk_byHash, sk_leansOn, sk_leantBy, .ref ch, sk_lines, sk_patches])), (b_y, .inl (cB, 290000, .inl f)), (fdA, .inl (cI, 502, .inl fdf)), (dpA, .inl (cI, 8400, .inl dpf)), (fcA, .inl (cI, 502, .inl fcf)), (ch, .inr (1, [ch_at, ch_patch, ch_file, .ref flA, ch_adds, ch_files])), (flA, .inl (cI, 38000, .inl flf))] sz) (va_Qi (fun (r : Int32) (_ : Unit) => r = nI (L0 + tw f (k + 4))) (fun _ t => xw_B dC dI [(cI, .int), (cB, .byte), (cL, .long), (cZ, .boolean), (cR, .object "PatchStore$Repository")] (va_A [(h, .inr (9, [.ref b_y, sk_from, .ref fdA, .ref fcA, .ref dpA, sk_hashes, sk_byHash, sk_leansOn, sk_leantBy, .ref ch, sk_lines, sk_patches])), (b_y, .inl (cB, 290000, .inl f)), (fdA, .inl (cI, 502, .inl fdf)), (dpA, .inl (cI, 8400, .inl dpf)), (fcA, .inl (cI, 502, .inl fcf)), (ch, .inr (1, [ch_at, ch_patch, ch_file, .ref flA, ch_adds, ch_files])), (flA, .inl (cI, 38000, .inl flf))] sz) [(h, .inr (9, [.ref b_y, sk_from, .ref fdA, .ref fcA, .ref dpA, sk_hashes, sk_byHash, sk_leansOn, sk_leantBy, .ref ch, sk_lines, sk_patches])), (b_y, .inl (cB, 290000, .inl f)), (fdA, .inl (cI, 502, .inl fdf)), (dpA, .inl (cI, 8400, .inl dpf)), (fcA, .inl (cI, 502, .inl fcf)), (ch, .inr (1, [ch_at, ch_patch, ch_file, .ref flA, ch_adds, ch_files])), (flA, .inl (cI, 38000, .inl flf))] t) (va_A [(h, .inr (9, [.ref b_y, sk_from, .ref fdA, .ref fcA, .ref dpA, sk_hashes, sk_byHash, sk_leansOn, sk_leantBy, .ref ch, sk_lines, sk_patches])), (b_y, .inl (cB, 290000, .inl f)), (fdA, .inl (cI, 502, .inl fdf)), (dpA, .inl (cI, 8400, .inl dpf)), (fcA, .inl (cI, 502, .inl fcf)), (ch, .inr (1, [ch_at, ch_patch, ch_file, .ref flA, ch_adds, ch_files])), (flA, .inl (cI, 38000, .inl flf))] sz)) 0 0 (va_A [(h, .inr (9, [.ref b_y, sk_from, .ref fdA, .ref fcA, .ref dpA, sk_hashes, sk_byHash, sk_leansOn, sk_leantBy, .ref ch, sk_lines, sk_patches])), (b_y, .inl (cB, 290000, .inl f)), (fdA, .inl (cI, 502, .inl fdf)), (dpA, .inl (cI, 8400, .inl dpf)), (fcA, .inl (cI, 502, .inl fcf)), (ch, .inr (1, [ch_at, ch_patch, ch_file, .ref flA, ch_adds, ch_files])), (flA, .inl (cI, 38000, .inl flf))] sz) := by
  refine Met.ofW (cc := prog_10_method_10_code) (maxL := 3) (ret := (Option.some Jvm.ClassFile.FieldType.int)) (by decide) rfl ?_
  intro p e s m args below meth c s₁ B hml hv
  obtain ⟨rfl, hsz, hP, hK, hD0⟩ := hv
  have hx := B.exec
  have hb := B.bytes
  have hr := B.returns
  have hts0 := atoms_spec (ws := ws_St_lineNamed) B.pre
  have hts : ∀ w ∈ xg_1, w.before _ s = true := fun w h => hts0 w (List.mem_cons_of_mem _ h)
  have hown : s.vm.findClass "PatchStore$Stock" = some m.cls := findClass_of_methodNamed B.named
  have hlocks := B.notSynchronized
  subst hsz
  have hD := hD0.self (sz := s.heap.size)
  generalize hAe : va_A [(h, .inr (9, [.ref b_y, sk_from, .ref fdA, .ref fcA, .ref dpA, sk_hashes, sk_byHash, sk_leansOn, sk_leantBy, .ref ch, sk_lines, sk_patches])), (b_y, .inl (cB, 290000, .inl f)), (fdA, .inl (cI, 502, .inl fdf)), (dpA, .inl (cI, 8400, .inl dpf)), (fcA, .inl (cI, 502, .inl fcf)), (ch, .inr (1, [ch_at, ch_patch, ch_file, .ref flA, ch_adds, ch_files])), (flA, .inl (cI, 38000, .inl flf))] s.heap.size = A at hD ⊢
  have hA : ∀ q : Nat, s.heap.size ≤ q → A q := fun q h => by rw [← hAe]; exact Or.inr h
  have hS : va_S A s.heap s.heap [] := va_S.rf
  have hl := lv_entry ([.ref h, .int (nI pp), .int (nI k)]) (n := 3) (Nat.le_of_ble_eq_true rfl)
  rw [lg_entry_eq]
  generalize (lg_sl ([.ref h, .int (nI pp), .int (nI k)]) ++ List.replicate (3 - (lg_sl ([.ref h, .int (nI pp), .int (nI k)])).length) Slot.unset).toArray = ls at hl ⊢
  have hl : lv_has ls 3 [(0, .ref h), (1, .int (nI pp)), (2, .int (nI k))] := hl
  refine lv_aload_n hx hb d_St_lineNamed_0 rfl (lv_at hl 0 rfl) ?_
  refine va_get (D := (dC, dI)) (ci := 9) (v := .ref ch) (C := R_St) (T := F_St) (N := 12) hx hb hts i_St hown hK hP 0 rfl rfl 9 (by decide) (hts _ gw_224) (fun _ h9 => h9) rfl d_St_lineNamed_1 ?_
  refine va_get (D := (dC, dI)) (ci := 1) (v := .ref flA) (C := R_Ch) (T := F_Ch) (N := 6) hx hb hts i_Ch hown hK hP 5 rfl rfl 3 (by decide) (hts _ gw_106) (fun _ h9 => h9) rfl d_St_lineNamed_4 ?_
  refine lv_aload_n hx hb d_St_lineNamed_7 rfl (lv_at hl 0 rfl) ?_
  refine lv_iload_n hx hb d_St_lineNamed_8 rfl (lv_at hl 1 rfl) ?_
  refine lv_iload_n hx hb d_St_lineNamed_9 rfl (lv_at hl 2 rfl) ?_
  have hPc := hP.sub (ws' := [(h, .inr (9, [.ref b_y, sk_from, .ref fdA, .ref fcA, .ref dpA, sk_hashes, sk_byHash, sk_leansOn, sk_leantBy, .ref ch, sk_lines, sk_patches])), (b_y, .inl (cB, 290000, .inl f)), (fdA, .inl (cI, 502, .inl fdf)), (dpA, .inl (cI, 8400, .inl dpf)), (fcA, .inl (cI, 502, .inl fcf))]) [0, 1, 2, 3, 4] rfl
  have hDc := hD.sub (ws' := [(h, .inr (9, [.ref b_y, sk_from, .ref fdA, .ref fcA, .ref dpA, sk_hashes, sk_byHash, sk_leansOn, sk_leantBy, .ref ch, sk_lines, sk_patches])), (b_y, .inl (cB, 290000, .inl f)), (fdA, .inl (cI, 502, .inl fdf)), (dpA, .inl (cI, 8400, .inl dpf)), (fcA, .inl (cI, 502, .inl fcf))]) [0, 1, 2, 3, 4] (by decide) rfl
  have hFc := va_free (wc := [(h, .inr (9, [.ref b_y, sk_from, .ref fdA, .ref fcA, .ref dpA, sk_hashes, sk_byHash, sk_leansOn, sk_leantBy, .ref ch, sk_lines, sk_patches])), (b_y, .inl (cB, 290000, .inl f)), (fdA, .inl (cI, 502, .inl fdf)), (dpA, .inl (cI, 8400, .inl dpf)), (fcA, .inl (cI, 502, .inl fcf))]) hD hS hA [0, 1, 2, 3, 4] rfl
  refine va_calli (va_runV (As := [.int (nI pp), .int (nI k)]) (rest := [.ref flA]) ⟨hx, hb, hml, hown, hts⟩ (m_St_changeNamed l dC dI cI cB cL cZ cR h b_y fdA dpA fcA (sk_from) (sk_hashes) (sk_byHash) (sk_leansOn) (sk_leantBy) (.ref ch) (sk_lines) (sk_patches) f fdf dpf fcf pp k O Cc s.heap.size (by omega) hpp gO hO2 hC) (cwV 2 hts (xg_V gw_931 gw_932 gw_933 gw_3 gw_934) rfl rfl rfl (by decide +kernel) ⟨Nat.le_of_ble_eq_true rfl, Nat.le_of_ble_eq_true rfl⟩) ⟨xw_blind, va_recv hK hPc (ci := 9) (q0 := 0) rfl rfl, fun U hU hW => ⟨rfl, by rw [hU], by rw [hU]; exact hPc, va_K.moved hW.alike hK, hDc.weaken (fun _ _ _ _ => trivial)⟩⟩ rfl rfl hl.1 rfl (lv_room (Nat.le_of_ble_eq_true rfl)) d_St_lineNamed_10 ⟨Nat.le_of_ble_eq_true rfl, Nat.le_of_ble_eq_true rfl⟩) hS (fun q _ h => hFc q h) hFc (fun r9 u t H1 locs ht hvm hw hB hz1 hk1 hS => ?_)
  obtain ⟨hP1, hK1, hD1⟩ := hB
  rw [ht] at hP1
  obtain ⟨hP, hD⟩ := va_join (wr := [(ch, .inr (1, [ch_at, ch_patch, ch_file, .ref flA, ch_adds, ch_files])), (flA, .inl (cI, 38000, .inl flf))]) (w1 := [(h, .inr (9, [.ref b_y, sk_from, .ref fdA, .ref fcA, .ref dpA, sk_hashes, sk_byHash, sk_leansOn, sk_leantBy, .ref ch, sk_lines, sk_patches])), (b_y, .inl (cB, 290000, .inl f)), (fdA, .inl (cI, 502, .inl fdf)), (dpA, .inl (cI, 8400, .inl dpf)), (fcA, .inl (cI, 502, .inl fcf))]) hP hD [0, 1, 2, 3, 4] [5, 6] rfl rfl (by decide) (by decide) hk1 hFc hP1 hD1
  generalize H1 = H at hP hS ⊢
  have hP : va_P (dC, dI) classes [(ch, .inr (1, [ch_at, ch_patch, ch_file, .ref flA, ch_adds, ch_files])), (flA, .inl (cI, 38000, .inl flf)), (h, .inr (9, [.ref b_y, sk_from, .ref fdA, .ref fcA, .ref dpA, sk_hashes, sk_byHash, sk_leansOn, sk_leantBy, .ref ch, sk_lines, sk_patches])), (b_y, .inl (cB, 290000, .inl f)), (fdA, .inl (cI, 502, .inl fdf)), (dpA, .inl (cI, 8400, .inl dpf)), (fcA, .inl (cI, 502, .inl fcf))] H := hP
  have hD : va_D A [(ch, .inr (1, [ch_at, ch_patch, ch_file, .ref flA, ch_adds, ch_files])), (flA, .inl (cI, 38000, .inl flf)), (h, .inr (9, [.ref b_y, sk_from, .ref fdA, .ref fcA, .ref dpA, sk_hashes, sk_byHash, sk_leansOn, sk_leantBy, .ref ch, sk_lines, sk_patches])), (b_y, .inl (cB, 290000, .inl f)), (fdA, .inl (cI, 502, .inl fdf)), (dpA, .inl (cI, 8400, .inl dpf)), (fcA, .inl (cI, 502, .inl fcf))] := hD
  subst hw
  have htw8 := tw_lt f (k + 2)
  refine va_iald hx hb hK hP 1 0 rfl rfl (vp_in_nI (by omega) (by omega)) d_St_lineNamed_13 ?_
  rw [show (nI (Cc + tw f (k + 2))).toNatClampNeg = (Cc + tw f (k + 2)) from nI_clamp (by omega)]
  refine lv_topi (fun x_1 ex_1 => ?_)
  obtain rfl : x_1 = nI L0 := by rw [ex_1]; first | done | (exact hL0)
  refine lv_aload_n hx hb d_St_lineNamed_14 rfl (lv_at hl 0 rfl) ?_
  refine lv_iload_n hx hb d_St_lineNamed_15 rfl (lv_at hl 2 rfl) ?_
  refine lv_iconst (v := 4) hx hb d_St_lineNamed_16 (by decide) ?_
  refine lv_iadd hx hb d_St_lineNamed_17 ?_
  refine lv_topi (fun x_2 ex_2 => ?_)
  obtain rfl : x_2 = nI (k + 4) := by rw [ex_2]; first | done | (exact nI_add _ _)
  have hPc := hP.sub (ws' := [(h, .inr (9, [.ref b_y, sk_from, .ref fdA, .ref fcA, .ref dpA, sk_hashes, sk_byHash, sk_leansOn, sk_leantBy, .ref ch, sk_lines, sk_patches])), (b_y, .inl (cB, 290000, .inl f))]) [2, 3] rfl
  have hDc := hD.sub (ws' := [(h, .inr (9, [.ref b_y, sk_from, .ref fdA, .ref fcA, .ref dpA, sk_hashes, sk_byHash, sk_leansOn, sk_leantBy, .ref ch, sk_lines, sk_patches])), (b_y, .inl (cB, 290000, .inl f))]) [2, 3] (by decide) rfl
  have hFc := va_free (wc := [(h, .inr (9, [.ref b_y, sk_from, .ref fdA, .ref fcA, .ref dpA, sk_hashes, sk_byHash, sk_leansOn, sk_leantBy, .ref ch, sk_lines, sk_patches])), (b_y, .inl (cB, 290000, .inl f))]) hD hS hA [2, 3] rfl
  refine va_calli (va_runV (As := [.int (nI (k + 4))]) (rest := [.int (nI L0)]) ⟨hx, hb, hml, hown, hts⟩ (m_St_two l dC dI cI cB cL cZ cR h b_y (sk_from) (.ref fdA) (.ref fcA) (.ref dpA) (sk_hashes) (sk_byHash) (sk_leansOn) (sk_leantBy) (.ref ch) (sk_lines) (sk_patches) f (k + 4) H.size (by omega)) (cwV 1 hts (xg_V gw_935 gw_771 gw_772 gw_3 gw_773) rfl rfl rfl (by decide +kernel) ⟨Nat.le_of_ble_eq_true rfl, Nat.le_of_ble_eq_true rfl⟩) ⟨xw_blind, va_recv hK hPc (ci := 9) (q0 := 0) rfl rfl, fun U hU hW => ⟨rfl, by rw [hU], by rw [hU]; exact hPc, va_K.moved hW.alike hK, hDc.weaken (fun _ _ _ _ => trivial)⟩⟩ rfl rfl hl.1 rfl (lv_room (Nat.le_of_ble_eq_true rfl)) d_St_lineNamed_18 ⟨Nat.le_of_ble_eq_true rfl, Nat.le_of_ble_eq_true rfl⟩) hS (fun q _ h => hFc q h) hFc (fun r9 u t H1 locs ht hvm hw hB hz1 hk1 hS => ?_)
  obtain ⟨hP1, hK1, hD1⟩ := hB
  rw [ht] at hP1
  obtain ⟨hP, hD⟩ := va_join (wr := [(ch, .inr (1, [ch_at, ch_patch, ch_file, .ref flA, ch_adds, ch_files])), (flA, .inl (cI, 38000, .inl flf)), (fdA, .inl (cI, 502, .inl fdf)), (dpA, .inl (cI, 8400, .inl dpf)), (fcA, .inl (cI, 502, .inl fcf))]) (w1 := [(h, .inr (9, [.ref b_y, sk_from, .ref fdA, .ref fcA, .ref dpA, sk_hashes, sk_byHash, sk_leansOn, sk_leantBy, .ref ch, sk_lines, sk_patches])), (b_y, .inl (cB, 290000, .inl f))]) hP hD [2, 3] [0, 1, 4, 5, 6] rfl rfl (by decide) (by decide) hk1 hFc hP1 hD1
  generalize H1 = H at hP hS ⊢
  have hP : va_P (dC, dI) classes [(ch, .inr (1, [ch_at, ch_patch, ch_file, .ref flA, ch_adds, ch_files])), (flA, .inl (cI, 38000, .inl flf)), (fdA, .inl (cI, 502, .inl fdf)), (dpA, .inl (cI, 8400, .inl dpf)), (fcA, .inl (cI, 502, .inl fcf)), (h, .inr (9, [.ref b_y, sk_from, .ref fdA, .ref fcA, .ref dpA, sk_hashes, sk_byHash, sk_leansOn, sk_leantBy, .ref ch, sk_lines, sk_patches])), (b_y, .inl (cB, 290000, .inl f))] H := hP
  have hD : va_D A [(ch, .inr (1, [ch_at, ch_patch, ch_file, .ref flA, ch_adds, ch_files])), (flA, .inl (cI, 38000, .inl flf)), (fdA, .inl (cI, 502, .inl fdf)), (dpA, .inl (cI, 8400, .inl dpf)), (fcA, .inl (cI, 502, .inl fcf)), (h, .inr (9, [.ref b_y, sk_from, .ref fdA, .ref fcA, .ref dpA, sk_hashes, sk_byHash, sk_leansOn, sk_leantBy, .ref ch, sk_lines, sk_patches])), (b_y, .inl (cB, 290000, .inl f))] := hD
  subst hw
  have htw9 := tw_lt f (k + 4)
  refine lv_iadd hx hb d_St_lineNamed_21 ?_
  refine lv_topi (fun x_3 ex_3 => ?_)
  obtain rfl : x_3 = nI (L0 + (tw f (k + 4))) := by rw [ex_3]; first | done | (exact nI_add _ _)
  have hP := hP.sub (ws' := [(h, .inr (9, [.ref b_y, sk_from, .ref fdA, .ref fcA, .ref dpA, sk_hashes, sk_byHash, sk_leansOn, sk_leantBy, .ref ch, sk_lines, sk_patches])), (b_y, .inl (cB, 290000, .inl f)), (fdA, .inl (cI, 502, .inl fdf)), (dpA, .inl (cI, 8400, .inl dpf)), (fcA, .inl (cI, 502, .inl fcf)), (ch, .inr (1, [ch_at, ch_patch, ch_file, .ref flA, ch_adds, ch_files])), (flA, .inl (cI, 38000, .inl flf))]) [5, 6, 2, 3, 4, 0, 1] rfl
  have hD := hD.sub (ws' := [(h, .inr (9, [.ref b_y, sk_from, .ref fdA, .ref fcA, .ref dpA, sk_hashes, sk_byHash, sk_leansOn, sk_leantBy, .ref ch, sk_lines, sk_patches])), (b_y, .inl (cB, 290000, .inl f)), (fdA, .inl (cI, 502, .inl fdf)), (dpA, .inl (cI, 8400, .inl dpf)), (fcA, .inl (cI, 502, .inl fcf)), (ch, .inr (1, [ch_at, ch_patch, ch_file, .ref flA, ch_adds, ch_files])), (flA, .inl (cI, 38000, .inl flf))]) [5, 6, 2, 3, 4, 0, 1] (by decide) rfl
  exact W.iret (v := nI (L0 + (tw f (k + 4)))) hx hb hr (fun t ht hW => ⟨⟨_, (), rfl, rfl, by rw [ht]; exact hP, va_K.moved hW.alike hK, hD⟩, hS.F ht⟩) hS.2.2 d_St_lineNamed_22
set_option maxHeartbeats 4000000 in
set_option maxRecDepth 100000 in
/-- the line of an up or down -/
theorem m_St_lineOrNone (l : Launch) (dC : Nat → ClassId) (dI : Nat → Nat → Nat) (cI cB cL cZ cR : ClassId) (h b_y fdA dpA fcA ch flA : Nat) (sk_from sk_hashes sk_byHash sk_leansOn sk_leantBy sk_lines sk_patches ch_at ch_patch ch_file ch_adds ch_files : Value) (f fdf dpf fcf flf : Nat → Int32) (pp k O Cc L0 : Nat) (sz : Nat) (hk : k + 6 < 290000) (hpp : pp < 502) (gO : ¬ f k = 0 → ownR f fdf dpf pp (k + 1) O) (hO2 : O < 502) (hC : fcf O = nI Cc) (hc2 : ¬ f k = 0 → Cc + tw f (k + 1 + 2) < 38000) (hL0 : ¬ f k = 0 → flf (Cc + tw f (k + 1 + 2)) = nI L0) : Met l y_St_lineOrNone ws_St_lineOrNone ({ frames := 3, cells := 0, slots := 0, locals := 140 }) (xw_Pc dC dI [(cI, .int), (cB, .byte), (cL, .long), (cZ, .boolean), (cR, .object "PatchStore$Repository")] [.ref h, .int (nI pp), .int (nI k)] [(h, .inr (9, [.ref b_y, sk_from, .ref fdA, .ref fcA, .ref dpA, sk_hashes, sk_byHash, sk_leansOn, sk_leantBy, .ref ch, sk_lines, sk_patches])), (b_y, .inl (cB, 290000, .inl f)), (fdA, .inl (cI, 502, .inl fdf)), (dpA, .inl (cI, 8400, .inl dpf)), (fcA, .inl (cI, 502, .inl fcf)), (ch, .inr (1, [ch_at, ch_patch, ch_file, .ref flA, ch_adds, ch_files])), (flA, .inl (cI, 38000, .inl flf))] sz) (va_Qi (fun (r : Int32) (_ : Unit) => (f k = 0 ∧ r = -1) ∨ (¬ f k = 0 ∧ r = nI (L0 + tw f (k + 1 + 4)))) (fun _ t => xw_B dC dI [(cI, .int), (cB, .byte), (cL, .long), (cZ, .boolean), (cR, .object "PatchStore$Repository")] (va_A [(h, .inr (9, [.ref b_y, sk_from, .ref fdA, .ref fcA, .ref dpA, sk_hashes, sk_byHash, sk_leansOn, sk_leantBy, .ref ch, sk_lines, sk_patches])), (b_y, .inl (cB, 290000, .inl f)), (fdA, .inl (cI, 502, .inl fdf)), (dpA, .inl (cI, 8400, .inl dpf)), (fcA, .inl (cI, 502, .inl fcf)), (ch, .inr (1, [ch_at, ch_patch, ch_file, .ref flA, ch_adds, ch_files])), (flA, .inl (cI, 38000, .inl flf))] sz) [(h, .inr (9, [.ref b_y, sk_from, .ref fdA, .ref fcA, .ref dpA, sk_hashes, sk_byHash, sk_leansOn, sk_leantBy, .ref ch, sk_lines, sk_patches])), (b_y, .inl (cB, 290000, .inl f)), (fdA, .inl (cI, 502, .inl fdf)), (dpA, .inl (cI, 8400, .inl dpf)), (fcA, .inl (cI, 502, .inl fcf)), (ch, .inr (1, [ch_at, ch_patch, ch_file, .ref flA, ch_adds, ch_files])), (flA, .inl (cI, 38000, .inl flf))] t) (va_A [(h, .inr (9, [.ref b_y, sk_from, .ref fdA, .ref fcA, .ref dpA, sk_hashes, sk_byHash, sk_leansOn, sk_leantBy, .ref ch, sk_lines, sk_patches])), (b_y, .inl (cB, 290000, .inl f)), (fdA, .inl (cI, 502, .inl fdf)), (dpA, .inl (cI, 8400, .inl dpf)), (fcA, .inl (cI, 502, .inl fcf)), (ch, .inr (1, [ch_at, ch_patch, ch_file, .ref flA, ch_adds, ch_files])), (flA, .inl (cI, 38000, .inl flf))] sz)) 0 0 (va_A [(h, .inr (9, [.ref b_y, sk_from, .ref fdA, .ref fcA, .ref dpA, sk_hashes, sk_byHash, sk_leansOn, sk_leantBy, .ref ch, sk_lines, sk_patches])), (b_y, .inl (cB, 290000, .inl f)), (fdA, .inl (cI, 502, .inl fdf)), (dpA, .inl (cI, 8400, .inl dpf)), (fcA, .inl (cI, 502, .inl fcf)), (ch, .inr (1, [ch_at, ch_patch, ch_file, .ref flA, ch_adds, ch_files])), (flA, .inl (cI, 38000, .inl flf))] sz) := by
  refine Met.ofW (cc := prog_10_method_11_code) (maxL := 3) (ret := (Option.some Jvm.ClassFile.FieldType.int)) (by decide) rfl ?_
  intro p e s m args below meth c s₁ B hml hv
  obtain ⟨rfl, hsz, hP, hK, hD0⟩ := hv
  have hx := B.exec
  have hb := B.bytes
  have hr := B.returns
  have hts0 := atoms_spec (ws := ws_St_lineOrNone) B.pre
  have hts : ∀ w ∈ xg_1, w.before _ s = true := fun w h => hts0 w (List.mem_cons_of_mem _ h)
  have hown : s.vm.findClass "PatchStore$Stock" = some m.cls := findClass_of_methodNamed B.named
  have hlocks := B.notSynchronized
  subst hsz
  have hD := hD0.self (sz := s.heap.size)
  generalize hAe : va_A [(h, .inr (9, [.ref b_y, sk_from, .ref fdA, .ref fcA, .ref dpA, sk_hashes, sk_byHash, sk_leansOn, sk_leantBy, .ref ch, sk_lines, sk_patches])), (b_y, .inl (cB, 290000, .inl f)), (fdA, .inl (cI, 502, .inl fdf)), (dpA, .inl (cI, 8400, .inl dpf)), (fcA, .inl (cI, 502, .inl fcf)), (ch, .inr (1, [ch_at, ch_patch, ch_file, .ref flA, ch_adds, ch_files])), (flA, .inl (cI, 38000, .inl flf))] s.heap.size = A at hD ⊢
  have hA : ∀ q : Nat, s.heap.size ≤ q → A q := fun q h => by rw [← hAe]; exact Or.inr h
  have hS : va_S A s.heap s.heap [] := va_S.rf
  have hl := lv_entry ([.ref h, .int (nI pp), .int (nI k)]) (n := 3) (Nat.le_of_ble_eq_true rfl)
  rw [lg_entry_eq]
  generalize (lg_sl ([.ref h, .int (nI pp), .int (nI k)]) ++ List.replicate (3 - (lg_sl ([.ref h, .int (nI pp), .int (nI k)])).length) Slot.unset).toArray = ls at hl ⊢
  have hl : lv_has ls 3 [(0, .ref h), (1, .int (nI pp)), (2, .int (nI k))] := hl
  refine lv_aload_n hx hb d_St_lineOrNone_0 rfl (lv_at hl 0 rfl) ?_
  refine va_get (D := (dC, dI)) (ci := 9) (v := .ref b_y) (C := R_St) (T := F_St) (N := 12) hx hb hts i_St hown hK hP 0 rfl rfl 0 (by decide) (hts _ gw_182) (fun _ h9 => h9) rfl d_St_lineOrNone_1 ?_
  refine lv_iload_n hx hb d_St_lineOrNone_4 rfl (lv_at hl 2 rfl) ?_
  refine va_bald hx hb hK hP 1 1 rfl rfl (vp_in_nI (by omega) (by omega)) d_St_lineOrNone_5 ?_
  rw [show (nI k).toNatClampNeg = k from nI_clamp (by omega)]
  refine lv_if_ne (tgt := 13) hx hb d_St_lineOrNone_6 (by decide) (fun c_6 => ?_) (fun c_6 => ?_)
  · refine lv_aload_n hx hb d_St_lineOrNone_13 rfl (lv_at hl 0 rfl) ?_
    refine lv_iload_n hx hb d_St_lineOrNone_14 rfl (lv_at hl 1 rfl) ?_
    refine lv_iload_n hx hb d_St_lineOrNone_15 rfl (lv_at hl 2 rfl) ?_
    refine lv_iconst (v := 1) hx hb d_St_lineOrNone_16 (by decide) ?_
    refine lv_iadd hx hb d_St_lineOrNone_17 ?_
    refine lv_topi (fun x_1 ex_1 => ?_)
    obtain rfl : x_1 = nI (k + 1) := by rw [ex_1]; first | done | (exact nI_add _ _)
    have hPc := hP.sub (ws' := [(h, .inr (9, [.ref b_y, sk_from, .ref fdA, .ref fcA, .ref dpA, sk_hashes, sk_byHash, sk_leansOn, sk_leantBy, .ref ch, sk_lines, sk_patches])), (b_y, .inl (cB, 290000, .inl f)), (fdA, .inl (cI, 502, .inl fdf)), (dpA, .inl (cI, 8400, .inl dpf)), (fcA, .inl (cI, 502, .inl fcf)), (ch, .inr (1, [ch_at, ch_patch, ch_file, .ref flA, ch_adds, ch_files])), (flA, .inl (cI, 38000, .inl flf))]) [0, 1, 2, 3, 4, 5, 6] rfl
    have hDc := hD.sub (ws' := [(h, .inr (9, [.ref b_y, sk_from, .ref fdA, .ref fcA, .ref dpA, sk_hashes, sk_byHash, sk_leansOn, sk_leantBy, .ref ch, sk_lines, sk_patches])), (b_y, .inl (cB, 290000, .inl f)), (fdA, .inl (cI, 502, .inl fdf)), (dpA, .inl (cI, 8400, .inl dpf)), (fcA, .inl (cI, 502, .inl fcf)), (ch, .inr (1, [ch_at, ch_patch, ch_file, .ref flA, ch_adds, ch_files])), (flA, .inl (cI, 38000, .inl flf))]) [0, 1, 2, 3, 4, 5, 6] (by decide) rfl
    have hFc := va_free (wc := [(h, .inr (9, [.ref b_y, sk_from, .ref fdA, .ref fcA, .ref dpA, sk_hashes, sk_byHash, sk_leansOn, sk_leantBy, .ref ch, sk_lines, sk_patches])), (b_y, .inl (cB, 290000, .inl f)), (fdA, .inl (cI, 502, .inl fdf)), (dpA, .inl (cI, 8400, .inl dpf)), (fcA, .inl (cI, 502, .inl fcf)), (ch, .inr (1, [ch_at, ch_patch, ch_file, .ref flA, ch_adds, ch_files])), (flA, .inl (cI, 38000, .inl flf))]) hD hS hA [0, 1, 2, 3, 4, 5, 6] rfl
    refine va_calli (va_runV (As := [.int (nI pp), .int (nI (k + 1))]) (rest := []) ⟨hx, hb, hml, hown, hts⟩ (m_St_lineNamed l dC dI cI cB cL cZ cR h b_y fdA dpA fcA ch flA (sk_from) (sk_hashes) (sk_byHash) (sk_leansOn) (sk_leantBy) (sk_lines) (sk_patches) (ch_at) (ch_patch) (ch_file) (ch_adds) (ch_files) f fdf dpf fcf flf pp (k + 1) O Cc L0 s.heap.size (by omega) hpp (gO c_6) hO2 hC (hc2 c_6) (hL0 c_6)) (cwV 2 hts (xg_V gw_965 gw_928 gw_929 gw_3 gw_930) rfl rfl rfl (by decide +kernel) ⟨Nat.le_of_ble_eq_true rfl, Nat.le_of_ble_eq_true rfl⟩) ⟨xw_blind, va_recv hK hPc (ci := 9) (q0 := 0) rfl rfl, fun U hU hW => ⟨rfl, by rw [hU], by rw [hU]; exact hPc, va_K.moved hW.alike hK, hDc.weaken (fun _ _ _ _ => trivial)⟩⟩ rfl rfl hl.1 rfl (lv_room (Nat.le_of_ble_eq_true rfl)) d_St_lineOrNone_18 ⟨Nat.le_of_ble_eq_true rfl, Nat.le_of_ble_eq_true rfl⟩) hS (fun q _ h => hFc q h) hFc (fun r9 u t H1 locs ht hvm hw hB hz1 hk1 hS => ?_)
    obtain ⟨hP1, hK1, hD1⟩ := hB
    rw [ht] at hP1
    obtain ⟨hP, hD⟩ := va_join (wr := []) (w1 := [(h, .inr (9, [.ref b_y, sk_from, .ref fdA, .ref fcA, .ref dpA, sk_hashes, sk_byHash, sk_leansOn, sk_leantBy, .ref ch, sk_lines, sk_patches])), (b_y, .inl (cB, 290000, .inl f)), (fdA, .inl (cI, 502, .inl fdf)), (dpA, .inl (cI, 8400, .inl dpf)), (fcA, .inl (cI, 502, .inl fcf)), (ch, .inr (1, [ch_at, ch_patch, ch_file, .ref flA, ch_adds, ch_files])), (flA, .inl (cI, 38000, .inl flf))]) hP hD [0, 1, 2, 3, 4, 5, 6] [] rfl rfl (by decide) (by decide) hk1 hFc hP1 hD1
    generalize H1 = H at hP hS ⊢
    have hP : va_P (dC, dI) classes [(h, .inr (9, [.ref b_y, sk_from, .ref fdA, .ref fcA, .ref dpA, sk_hashes, sk_byHash, sk_leansOn, sk_leantBy, .ref ch, sk_lines, sk_patches])), (b_y, .inl (cB, 290000, .inl f)), (fdA, .inl (cI, 502, .inl fdf)), (dpA, .inl (cI, 8400, .inl dpf)), (fcA, .inl (cI, 502, .inl fcf)), (ch, .inr (1, [ch_at, ch_patch, ch_file, .ref flA, ch_adds, ch_files])), (flA, .inl (cI, 38000, .inl flf))] H := hP
    have hD : va_D A [(h, .inr (9, [.ref b_y, sk_from, .ref fdA, .ref fcA, .ref dpA, sk_hashes, sk_byHash, sk_leansOn, sk_leantBy, .ref ch, sk_lines, sk_patches])), (b_y, .inl (cB, 290000, .inl f)), (fdA, .inl (cI, 502, .inl fdf)), (dpA, .inl (cI, 8400, .inl dpf)), (fcA, .inl (cI, 502, .inl fcf)), (ch, .inr (1, [ch_at, ch_patch, ch_file, .ref flA, ch_adds, ch_files])), (flA, .inl (cI, 38000, .inl flf))] := hD
    subst hw
    exact W.iret (v := nI (L0 + tw f (k + 1 + 4))) hx hb hr (fun t ht hW => ⟨⟨_, (), rfl, Or.inr ⟨c_6, rfl⟩, by rw [ht]; exact hP, va_K.moved hW.alike hK, hD⟩, hS.F ht⟩) hS.2.2 d_St_lineOrNone_21
  · refine lv_iconst (v := (-1)) hx hb d_St_lineOrNone_9 (by decide) ?_
    refine lv_goto (tgt := 21) hx hb d_St_lineOrNone_10 (by decide) ?_
    exact W.iret (v := (-1)) hx hb hr (fun t ht hW => ⟨⟨_, (), rfl, Or.inl ⟨c_6, rfl⟩, by rw [ht]; exact hP, va_K.moved hW.alike hK, hD⟩, hS.F ht⟩) hS.2.2 d_St_lineOrNone_21
set_option maxHeartbeats 4000000 in
set_option maxRecDepth 100000 in
/-- aboutLine -/
theorem m_St_aboutLine (l : Launch) (dC : Nat → ClassId) (dI : Nat → Nat → Nat) (cI cB cL cZ cR : ClassId) (h fcA ch cpA ln llA lcA lpA : Nat) (sk_bytes sk_from sk_firstDependency sk_dependencies sk_hashes sk_byHash sk_leansOn sk_leantBy sk_patches ch_at ch_file ch_firstLine ch_adds ch_files ln_at ln_up ln_down ln_ofFile ln_total : Value) (fcf cpf llf lcf lpf : Nat → Int32) (k Cc pp F0 : Nat) (wh : Int32) (sz : Nat) (hk : k < 4000) (hC : lcf k = nI Cc) (hC2 : Cc < 38000) (hp : cpf Cc = nI pp) (hp2 : pp < 502) (hF0 : fcf pp = nI F0) (hle : F0 ≤ Cc) : Met l y_St_aboutLine ws_St_aboutLine ({ frames := 0, cells := 0, slots := 0, locals := 0 }) (xw_Pc dC dI [(cI, .int), (cB, .byte), (cL, .long), (cZ, .boolean), (cR, .object "PatchStore$Repository")] [.ref h, .int (nI k), .int wh] [(h, .inr (9, [sk_bytes, sk_from, sk_firstDependency, .ref fcA, sk_dependencies, sk_hashes, sk_byHash, sk_leansOn, sk_leantBy, .ref ch, .ref ln, sk_patches])), (fcA, .inl (cI, 502, .inl fcf)), (ch, .inr (1, [ch_at, .ref cpA, ch_file, ch_firstLine, ch_adds, ch_files])), (cpA, .inl (cI, 38000, .inl cpf)), (ln, .inr (4, [ln_at, .ref llA, .ref lcA, .ref lpA, ln_up, ln_down, ln_ofFile, ln_total])), (llA, .inl (cI, 4000, .inl llf)), (lcA, .inl (cI, 4000, .inl lcf)), (lpA, .inl (cI, 4000, .inl lpf))] sz) (va_Qi (fun (r : Int32) (_ : Unit) => r = if wh = -3 then nI (Cc - F0) else if wh = -2 then nI pp else if wh = -1 then llf k else lpf k) (fun _ t => xw_B dC dI [(cI, .int), (cB, .byte), (cL, .long), (cZ, .boolean), (cR, .object "PatchStore$Repository")] (va_A [(h, .inr (9, [sk_bytes, sk_from, sk_firstDependency, .ref fcA, sk_dependencies, sk_hashes, sk_byHash, sk_leansOn, sk_leantBy, .ref ch, .ref ln, sk_patches])), (fcA, .inl (cI, 502, .inl fcf)), (ch, .inr (1, [ch_at, .ref cpA, ch_file, ch_firstLine, ch_adds, ch_files])), (cpA, .inl (cI, 38000, .inl cpf)), (ln, .inr (4, [ln_at, .ref llA, .ref lcA, .ref lpA, ln_up, ln_down, ln_ofFile, ln_total])), (llA, .inl (cI, 4000, .inl llf)), (lcA, .inl (cI, 4000, .inl lcf)), (lpA, .inl (cI, 4000, .inl lpf))] sz) [(h, .inr (9, [sk_bytes, sk_from, sk_firstDependency, .ref fcA, sk_dependencies, sk_hashes, sk_byHash, sk_leansOn, sk_leantBy, .ref ch, .ref ln, sk_patches])), (fcA, .inl (cI, 502, .inl fcf)), (ch, .inr (1, [ch_at, .ref cpA, ch_file, ch_firstLine, ch_adds, ch_files])), (cpA, .inl (cI, 38000, .inl cpf)), (ln, .inr (4, [ln_at, .ref llA, .ref lcA, .ref lpA, ln_up, ln_down, ln_ofFile, ln_total])), (llA, .inl (cI, 4000, .inl llf)), (lcA, .inl (cI, 4000, .inl lcf)), (lpA, .inl (cI, 4000, .inl lpf))] t) (va_A [(h, .inr (9, [sk_bytes, sk_from, sk_firstDependency, .ref fcA, sk_dependencies, sk_hashes, sk_byHash, sk_leansOn, sk_leantBy, .ref ch, .ref ln, sk_patches])), (fcA, .inl (cI, 502, .inl fcf)), (ch, .inr (1, [ch_at, .ref cpA, ch_file, ch_firstLine, ch_adds, ch_files])), (cpA, .inl (cI, 38000, .inl cpf)), (ln, .inr (4, [ln_at, .ref llA, .ref lcA, .ref lpA, ln_up, ln_down, ln_ofFile, ln_total])), (llA, .inl (cI, 4000, .inl llf)), (lcA, .inl (cI, 4000, .inl lcf)), (lpA, .inl (cI, 4000, .inl lpf))] sz)) 0 0 (va_A [(h, .inr (9, [sk_bytes, sk_from, sk_firstDependency, .ref fcA, sk_dependencies, sk_hashes, sk_byHash, sk_leansOn, sk_leantBy, .ref ch, .ref ln, sk_patches])), (fcA, .inl (cI, 502, .inl fcf)), (ch, .inr (1, [ch_at, .ref cpA, ch_file, ch_firstLine, ch_adds, ch_files])), (cpA, .inl (cI, 38000, .inl cpf)), (ln, .inr (4, [ln_at, .ref llA, .ref lcA, .ref lpA, ln_up, ln_down, ln_ofFile, ln_total])), (llA, .inl (cI, 4000, .inl llf)), (lcA, .inl (cI, 4000, .inl lcf)), (lpA, .inl (cI, 4000, .inl lpf))] sz) := by
  refine Met.ofW (cc := prog_10_method_12_code) (maxL := 5) (ret := (Option.some Jvm.ClassFile.FieldType.int)) (by decide) rfl ?_
  intro p e s m args below meth c s₁ B hml hv
  obtain ⟨rfl, hsz, hP, hK, hD0⟩ := hv
  have hx := B.exec
  have hb := B.bytes
  have hr := B.returns
  have hts0 := atoms_spec (ws := ws_St_aboutLine) B.pre
  have hts : ∀ w ∈ xg_1, w.before _ s = true := fun w h => hts0 w (List.mem_cons_of_mem _ h)
  have hown : s.vm.findClass "PatchStore$Stock" = some m.cls := findClass_of_methodNamed B.named
  have hlocks := B.notSynchronized
  subst hsz
  have hD := hD0.self (sz := s.heap.size)
  generalize hAe : va_A [(h, .inr (9, [sk_bytes, sk_from, sk_firstDependency, .ref fcA, sk_dependencies, sk_hashes, sk_byHash, sk_leansOn, sk_leantBy, .ref ch, .ref ln, sk_patches])), (fcA, .inl (cI, 502, .inl fcf)), (ch, .inr (1, [ch_at, .ref cpA, ch_file, ch_firstLine, ch_adds, ch_files])), (cpA, .inl (cI, 38000, .inl cpf)), (ln, .inr (4, [ln_at, .ref llA, .ref lcA, .ref lpA, ln_up, ln_down, ln_ofFile, ln_total])), (llA, .inl (cI, 4000, .inl llf)), (lcA, .inl (cI, 4000, .inl lcf)), (lpA, .inl (cI, 4000, .inl lpf))] s.heap.size = A at hD ⊢
  have hA : ∀ q : Nat, s.heap.size ≤ q → A q := fun q h => by rw [← hAe]; exact Or.inr h
  have hS : va_S A s.heap s.heap [] := va_S.rf
  have hl := lv_entry ([.ref h, .int (nI k), .int wh]) (n := 5) (Nat.le_of_ble_eq_true rfl)
  rw [lg_entry_eq]
  generalize (lg_sl ([.ref h, .int (nI k), .int wh]) ++ List.replicate (5 - (lg_sl ([.ref h, .int (nI k), .int wh])).length) Slot.unset).toArray = ls at hl ⊢
  have hl : lv_has ls 5 [(0, .ref h), (1, .int (nI k)), (2, .int wh)] := hl
  refine lv_aload_n hx hb d_St_aboutLine_0 rfl (lv_at hl 0 rfl) ?_
  refine va_get (D := (dC, dI)) (ci := 9) (v := .ref ln) (C := R_St) (T := F_St) (N := 12) hx hb hts i_St hown hK hP 0 rfl rfl 10 (by decide) (hts _ gw_231) (fun _ h9 => h9) rfl d_St_aboutLine_1 ?_
  refine va_get (D := (dC, dI)) (ci := 4) (v := .ref lcA) (C := R_Li) (T := F_Li) (N := 8) hx hb hts i_Li hown hK hP 4 rfl rfl 2 (by decide) (hts _ gw_146) (fun _ h9 => h9) rfl d_St_aboutLine_4 ?_
  refine lv_iload_n hx hb d_St_aboutLine_7 rfl (lv_at hl 1 rfl) ?_
  refine va_iald hx hb hK hP 6 0 rfl rfl (vp_in_nI (by omega) (by omega)) d_St_aboutLine_8 ?_
  rw [show (nI k).toNatClampNeg = k from nI_clamp (by omega)]
  refine lv_topi (fun x_1 ex_1 => ?_)
  obtain rfl : x_1 = nI Cc := by rw [ex_1]; first | done | (exact hC)
  refine lv_istore_n (lv' := [(3, .int (nI Cc)), (0, .ref h), (1, .int (nI k)), (2, .int wh)]) hx hb d_St_aboutLine_9 rfl hl (by decide) rfl (fun ls hl => ?_)
  refine lv_aload_n hx hb d_St_aboutLine_10 rfl (lv_at hl 1 rfl) ?_
  refine va_get (D := (dC, dI)) (ci := 9) (v := .ref ch) (C := R_St) (T := F_St) (N := 12) hx hb hts i_St hown hK hP 0 rfl rfl 9 (by decide) (hts _ gw_224) (fun _ h9 => h9) rfl d_St_aboutLine_11 ?_
  refine va_get (D := (dC, dI)) (ci := 1) (v := .ref cpA) (C := R_Ch) (T := F_Ch) (N := 6) hx hb hts i_Ch hown hK hP 2 rfl rfl 1 (by decide) (hts _ gw_95) (fun _ h9 => h9) rfl d_St_aboutLine_14 ?_
  refine lv_iload_n hx hb d_St_aboutLine_17 rfl (lv_at hl 0 rfl) ?_
  refine va_iald hx hb hK hP 3 0 rfl rfl (vp_in_nI (by omega) (by omega)) d_St_aboutLine_18 ?_
  rw [show (nI Cc).toNatClampNeg = Cc from nI_clamp (by omega)]
  refine lv_topi (fun x_2 ex_2 => ?_)
  obtain rfl : x_2 = nI pp := by rw [ex_2]; first | done | (exact hp)
  refine lv_istore (lv' := [(4, .int (nI pp)), (3, .int (nI Cc)), (0, .ref h), (1, .int (nI k)), (2, .int wh)]) hx hb d_St_aboutLine_19 hl (by decide) rfl (fun ls hl => ?_)
  refine lv_iload_n hx hb d_St_aboutLine_21 rfl (lv_at hl 4 rfl) ?_
  by_cases hs_22_3 : wh = (-3)
  · refine lv_topi (fun x_s e_s => ?_)
    obtain rfl : x_s = (-3) := e_s.trans hs_22_3
    refine lv_tableIn (tgt := 61) (off := 39) hx hb d_St_aboutLine_22 (by decide) (by decide) (by decide) (by decide) ?_
    refine lv_iload_n hx hb d_St_aboutLine_61 rfl (lv_at hl 1 rfl) ?_
    refine lv_aload_n hx hb d_St_aboutLine_62 rfl (lv_at hl 2 rfl) ?_
    refine va_get (D := (dC, dI)) (ci := 9) (v := .ref fcA) (C := R_St) (T := F_St) (N := 12) hx hb hts i_St hown hK hP 0 rfl rfl 3 (by decide) (hts _ gw_196) (fun _ h9 => h9) rfl d_St_aboutLine_63 ?_
    refine lv_iload hx hb d_St_aboutLine_66 (lv_at hl 0 rfl) ?_
    refine va_iald hx hb hK hP 1 0 rfl rfl (vp_in_nI (by omega) (by omega)) d_St_aboutLine_68 ?_
    rw [show (nI pp).toNatClampNeg = pp from nI_clamp (by omega)]
    refine lv_topi (fun x_3 ex_3 => ?_)
    obtain rfl : x_3 = nI F0 := by rw [ex_3]; first | done | (exact hF0)
    refine lv_isub hx hb d_St_aboutLine_69 ?_
    refine lv_topi (fun x_4 ex_4 => ?_)
    obtain rfl : x_4 = nI (Cc - F0) := by rw [ex_4]; first | done | (exact nI_subN hle)
    exact W.iret (v := nI (Cc - F0)) hx hb hr (fun t ht hW => ⟨⟨_, (), rfl, (if_pos hs_22_3).symm, by rw [ht]; exact hP, va_K.moved hW.alike hK, hD⟩, hS.F ht⟩) hS.2.2 d_St_aboutLine_70
  by_cases hs_22_2 : wh = (-2)
  · refine lv_topi (fun x_s e_s => ?_)
    obtain rfl : x_s = (-2) := e_s.trans hs_22_2
    refine lv_tableIn (tgt := 58) (off := 36) hx hb d_St_aboutLine_22 (by decide) (by decide) (by decide) (by decide) ?_
    refine lv_iload hx hb d_St_aboutLine_58 (lv_at hl 0 rfl) ?_
    exact W.iret (v := nI pp) hx hb hr (fun t ht hW => ⟨⟨_, (), rfl, by rw [if_neg hs_22_3, if_pos hs_22_2], by rw [ht]; exact hP, va_K.moved hW.alike hK, hD⟩, hS.F ht⟩) hS.2.2 d_St_aboutLine_60
  by_cases hs_22_1 : wh = (-1)
  · refine lv_topi (fun x_s e_s => ?_)
    obtain rfl : x_s = (-1) := e_s.trans hs_22_1
    refine lv_tableIn (tgt := 48) (off := 26) hx hb d_St_aboutLine_22 (by decide) (by decide) (by decide) (by decide) ?_
    refine lv_aload_n hx hb d_St_aboutLine_48 rfl (lv_at hl 2 rfl) ?_
    refine va_get (D := (dC, dI)) (ci := 9) (v := .ref ln) (C := R_St) (T := F_St) (N := 12) hx hb hts i_St hown hK hP 0 rfl rfl 10 (by decide) (hts _ gw_231) (fun _ h9 => h9) rfl d_St_aboutLine_49 ?_
    refine va_get (D := (dC, dI)) (ci := 4) (v := .ref llA) (C := R_Li) (T := F_Li) (N := 8) hx hb hts i_Li hown hK hP 4 rfl rfl 1 (by decide) (hts _ gw_140) (fun _ h9 => h9) rfl d_St_aboutLine_52 ?_
    refine lv_iload_n hx hb d_St_aboutLine_55 rfl (lv_at hl 3 rfl) ?_
    refine va_iald hx hb hK hP 5 0 rfl rfl (vp_in_nI (by omega) (by omega)) d_St_aboutLine_56 ?_
    rw [show (nI k).toNatClampNeg = k from nI_clamp (by omega)]
    exact W.iret (v := llf k) hx hb hr (fun t ht hW => ⟨⟨_, (), rfl, by rw [if_neg hs_22_3, if_neg hs_22_2, if_pos hs_22_1], by rw [ht]; exact hP, va_K.moved hW.alike hK, hD⟩, hS.F ht⟩) hS.2.2 d_St_aboutLine_57
  refine lv_tableOut (tgt := 71) hx hb d_St_aboutLine_22 (by
      have z3 : ¬ (wh : Int32).toInt = (-3) := fun z => hs_22_3 (Int32.toInt_inj.mp (z.trans (by decide)))
      have z2 : ¬ (wh : Int32).toInt = (-2) := fun z => hs_22_2 (Int32.toInt_inj.mp (z.trans (by decide)))
      have z1 : ¬ (wh : Int32).toInt = (-1) := fun z => hs_22_1 (Int32.toInt_inj.mp (z.trans (by decide)))
      omega) (by decide) ?_
  refine lv_aload_n hx hb d_St_aboutLine_71 rfl (lv_at hl 2 rfl) ?_
  refine va_get (D := (dC, dI)) (ci := 9) (v := .ref ln) (C := R_St) (T := F_St) (N := 12) hx hb hts i_St hown hK hP 0 rfl rfl 10 (by decide) (hts _ gw_231) (fun _ h9 => h9) rfl d_St_aboutLine_72 ?_
  refine va_get (D := (dC, dI)) (ci := 4) (v := .ref lpA) (C := R_Li) (T := F_Li) (N := 8) hx hb hts i_Li hown hK hP 4 rfl rfl 3 (by decide) (hts _ gw_152) (fun _ h9 => h9) rfl d_St_aboutLine_75 ?_
  refine lv_iload_n hx hb d_St_aboutLine_78 rfl (lv_at hl 3 rfl) ?_
  refine va_iald hx hb hK hP 7 0 rfl rfl (vp_in_nI (by omega) (by omega)) d_St_aboutLine_79 ?_
  rw [show (nI k).toNatClampNeg = k from nI_clamp (by omega)]
  exact W.iret (v := lpf k) hx hb hr (fun t ht hW => ⟨⟨_, (), rfl, by rw [if_neg hs_22_3, if_neg hs_22_2, if_neg hs_22_1], by rw [ht]; exact hP, va_K.moved hW.alike hK, hD⟩, hS.F ht⟩) hS.2.2 d_St_aboutLine_80
end
section
/-! 59.deps.lean.txt -/
theorem gw_184 : (Jvm.Cond.fieldLink "PatchStore$Intake" (98 : Nat) "PatchStore$Stock" "bytes" "[B") ∈ xg_1 := xg_s1 184 rfl rfl
theorem gw_191 : (Jvm.Cond.fieldLink "PatchStore$Intake" (88 : Nat) "PatchStore$Stock" "from" "[I") ∈ xg_1 := xg_s1 191 rfl rfl
theorem gw_195 : (Jvm.Cond.fieldLink "PatchStore$Intake" (95 : Nat) "PatchStore$Stock" "firstDependency" "[I") ∈ xg_1 := xg_s1 195 rfl rfl
theorem gw_203 : (Jvm.Cond.fieldLink "PatchStore$Intake" (110 : Nat) "PatchStore$Stock" "dependencies" "[I") ∈ xg_1 := xg_s1 203 rfl rfl
theorem gw_238 : (Jvm.Cond.fieldLink "PatchStore$Intake" (84 : Nat) "PatchStore$Stock" "patches" "I") ∈ xg_1 := xg_s1 238 rfl rfl
theorem gw_815 : (Jvm.Cond.methodLink "PatchStore$Intake" (91 : Nat) ({ cls := "PatchStore$Stock", name := "two", desc := "(I)I" } : Jvm.MethodName)) ∈ xg_1 := xg_s4 95 rfl rfl
theorem gw_816 : (Jvm.Cond.methodLink "PatchStore$Intake" (102 : Nat) ({ cls := "PatchStore$Stock", name := "patchWith", desc := "([BI)I" } : Jvm.MethodName)) ∈ xg_1 := xg_s4 96 rfl rfl
theorem gw_817 : (Jvm.Cond.instanceMethod ({ cls := "PatchStore$Stock", name := "patchWith", desc := "([BI)I" } : Jvm.MethodName)) ∈ xg_1 := xg_s4 97 rfl rfl
theorem gw_818 : (Jvm.Cond.selects "PatchStore$Stock" ({ cls := "PatchStore$Stock", name := "patchWith", desc := "([BI)I" } : Jvm.MethodName) ({ cls := "PatchStore$Stock", name := "patchWith", desc := "([BI)I" } : Jvm.MethodName)) ∈ xg_1 := xg_s4 98 rfl rfl
theorem gw_819 : (Jvm.Cond.code ({ cls := "PatchStore$Stock", name := "patchWith", desc := "([BI)I" } : Jvm.MethodName) prog_10_method_14_code (4 : Nat) (Option.some Jvm.ClassFile.FieldType.int)) ∈ xg_1 := xg_s4 99 rfl rfl
theorem gw_825 : (Jvm.Cond.methodLink "PatchStore$Intake" (106 : Nat) ({ cls := "PatchStore$Repository", name := "holds", desc := "(I)Z" } : Jvm.MethodName)) ∈ xg_1 := xg_s4 105 rfl rfl
def y_In_findDependencies : MethodName := ⟨"PatchStore$Intake", "findDependencies", "(LPatchStore$Repository;)Z"⟩
abbrev c_In_findDependencies : Cond := (Jvm.Cond.code ({ cls := "PatchStore$Intake", name := "findDependencies", desc := "(LPatchStore$Repository;)Z" } : Jvm.MethodName) prog_4_method_3_code (7 : Nat) (Option.some Jvm.ClassFile.FieldType.boolean))
abbrev ws_In_findDependencies : List Cond := c_In_findDependencies :: xg_1
theorem d_In_findDependencies_0 : decode prog_4_method_3_code 0 = .ok (.aload_n 0, 1) := by decide +kernel
theorem d_In_findDependencies_1 : decode prog_4_method_3_code 1 = .ok (.getfield 18, 3) := by decide +kernel
theorem d_In_findDependencies_4 : decode prog_4_method_3_code 4 = .ok (.getfield 88, 3) := by decide +kernel
theorem d_In_findDependencies_7 : decode prog_4_method_3_code 7 = .ok (.aload_n 0, 1) := by decide +kernel
theorem d_In_findDependencies_8 : decode prog_4_method_3_code 8 = .ok (.getfield 18, 3) := by decide +kernel
theorem d_In_findDependencies_11 : decode prog_4_method_3_code 11 = .ok (.getfield 84, 3) := by decide +kernel
theorem d_In_findDependencies_14 : decode prog_4_method_3_code 14 = .ok (.iaload, 1) := by decide +kernel
theorem d_In_findDependencies_15 : decode prog_4_method_3_code 15 = .ok (.istore_n 2, 1) := by decide +kernel
theorem d_In_findDependencies_16 : decode prog_4_method_3_code 16 = .ok (.aload_n 0, 1) := by decide +kernel
theorem d_In_findDependencies_17 : decode prog_4_method_3_code 17 = .ok (.getfield 18, 3) := by decide +kernel
theorem d_In_findDependencies_20 : decode prog_4_method_3_code 20 = .ok (.iload_n 2, 1) := by decide +kernel
theorem d_In_findDependencies_21 : decode prog_4_method_3_code 21 = .ok (.invokevirtual 91, 3) := by decide +kernel
theorem d_In_findDependencies_24 : decode prog_4_method_3_code 24 = .ok (.istore_n 3, 1) := by decide +kernel
theorem d_In_findDependencies_25 : decode prog_4_method_3_code 25 = .ok (.aload_n 0, 1) := by decide +kernel
theorem d_In_findDependencies_26 : decode prog_4_method_3_code 26 = .ok (.getfield 18, 3) := by decide +kernel
theorem d_In_findDependencies_29 : decode prog_4_method_3_code 29 = .ok (.getfield 95, 3) := by decide +kernel
theorem d_In_findDependencies_32 : decode prog_4_method_3_code 32 = .ok (.aload_n 0, 1) := by decide +kernel
theorem d_In_findDependencies_33 : decode prog_4_method_3_code 33 = .ok (.getfield 18, 3) := by decide +kernel
theorem d_In_findDependencies_36 : decode prog_4_method_3_code 36 = .ok (.getfield 84, 3) := by decide +kernel
theorem d_In_findDependencies_39 : decode prog_4_method_3_code 39 = .ok (.iaload, 1) := by decide +kernel
theorem d_In_findDependencies_40 : decode prog_4_method_3_code 40 = .ok (.istore 4, 2) := by decide +kernel
theorem d_In_findDependencies_42 : decode prog_4_method_3_code 42 = .ok (.iconst 0, 1) := by decide +kernel
theorem d_In_findDependencies_43 : decode prog_4_method_3_code 43 = .ok (.istore 5, 2) := by decide +kernel
theorem d_In_findDependencies_45 : decode prog_4_method_3_code 45 = .ok (.iload 5, 2) := by decide +kernel
theorem d_In_findDependencies_47 : decode prog_4_method_3_code 47 = .ok (.iload_n 3, 1) := by decide +kernel
theorem d_In_findDependencies_48 : decode prog_4_method_3_code 48 = .ok (.if_icmp .ge 71, 3) := by decide +kernel
theorem d_In_findDependencies_51 : decode prog_4_method_3_code 51 = .ok (.aload_n 0, 1) := by decide +kernel
theorem d_In_findDependencies_52 : decode prog_4_method_3_code 52 = .ok (.getfield 18, 3) := by decide +kernel
theorem d_In_findDependencies_55 : decode prog_4_method_3_code 55 = .ok (.aload_n 0, 1) := by decide +kernel
theorem d_In_findDependencies_56 : decode prog_4_method_3_code 56 = .ok (.getfield 18, 3) := by decide +kernel
theorem d_In_findDependencies_59 : decode prog_4_method_3_code 59 = .ok (.getfield 98, 3) := by decide +kernel
theorem d_In_findDependencies_62 : decode prog_4_method_3_code 62 = .ok (.iload_n 2, 1) := by decide +kernel
theorem d_In_findDependencies_63 : decode prog_4_method_3_code 63 = .ok (.iconst 2, 1) := by decide +kernel
theorem d_In_findDependencies_64 : decode prog_4_method_3_code 64 = .ok (.iadd, 1) := by decide +kernel
theorem d_In_findDependencies_65 : decode prog_4_method_3_code 65 = .ok (.iload 5, 2) := by decide +kernel
theorem d_In_findDependencies_67 : decode prog_4_method_3_code 67 = .ok (.bipush 32, 2) := by decide +kernel
theorem d_In_findDependencies_69 : decode prog_4_method_3_code 69 = .ok (.imul, 1) := by decide +kernel
theorem d_In_findDependencies_70 : decode prog_4_method_3_code 70 = .ok (.iadd, 1) := by decide +kernel
theorem d_In_findDependencies_71 : decode prog_4_method_3_code 71 = .ok (.invokevirtual 102, 3) := by decide +kernel
theorem d_In_findDependencies_74 : decode prog_4_method_3_code 74 = .ok (.istore 6, 2) := by decide +kernel
theorem d_In_findDependencies_76 : decode prog_4_method_3_code 76 = .ok (.aload_n 1, 1) := by decide +kernel
theorem d_In_findDependencies_77 : decode prog_4_method_3_code 77 = .ok (.iload 6, 2) := by decide +kernel
theorem d_In_findDependencies_79 : decode prog_4_method_3_code 79 = .ok (.invokevirtual 106, 3) := by decide +kernel
theorem d_In_findDependencies_82 : decode prog_4_method_3_code 82 = .ok (.ifCond .eq 14, 3) := by decide +kernel
theorem d_In_findDependencies_85 : decode prog_4_method_3_code 85 = .ok (.iload 4, 2) := by decide +kernel
theorem d_In_findDependencies_87 : decode prog_4_method_3_code 87 = .ok (.iload 5, 2) := by decide +kernel
theorem d_In_findDependencies_89 : decode prog_4_method_3_code 89 = .ok (.iadd, 1) := by decide +kernel
theorem d_In_findDependencies_90 : decode prog_4_method_3_code 90 = .ok (.sipush 8400, 3) := by decide +kernel
theorem d_In_findDependencies_93 : decode prog_4_method_3_code 93 = .ok (.if_icmp .lt 5, 3) := by decide +kernel
theorem d_In_findDependencies_96 : decode prog_4_method_3_code 96 = .ok (.iconst 0, 1) := by decide +kernel
theorem d_In_findDependencies_97 : decode prog_4_method_3_code 97 = .ok (.ireturn, 1) := by decide +kernel
theorem d_In_findDependencies_98 : decode prog_4_method_3_code 98 = .ok (.aload_n 0, 1) := by decide +kernel
theorem d_In_findDependencies_99 : decode prog_4_method_3_code 99 = .ok (.getfield 18, 3) := by decide +kernel
theorem d_In_findDependencies_102 : decode prog_4_method_3_code 102 = .ok (.getfield 110, 3) := by decide +kernel
theorem d_In_findDependencies_105 : decode prog_4_method_3_code 105 = .ok (.iload 4, 2) := by decide +kernel
theorem d_In_findDependencies_107 : decode prog_4_method_3_code 107 = .ok (.iload 5, 2) := by decide +kernel
theorem d_In_findDependencies_109 : decode prog_4_method_3_code 109 = .ok (.iadd, 1) := by decide +kernel
theorem d_In_findDependencies_110 : decode prog_4_method_3_code 110 = .ok (.iload 6, 2) := by decide +kernel
theorem d_In_findDependencies_112 : decode prog_4_method_3_code 112 = .ok (.iastore, 1) := by decide +kernel
theorem d_In_findDependencies_113 : decode prog_4_method_3_code 113 = .ok (.iinc 5 1, 3) := by decide +kernel
theorem d_In_findDependencies_116 : decode prog_4_method_3_code 116 = .ok (.goto (-71), 3) := by decide +kernel
theorem d_In_findDependencies_119 : decode prog_4_method_3_code 119 = .ok (.aload_n 0, 1) := by decide +kernel
theorem d_In_findDependencies_120 : decode prog_4_method_3_code 120 = .ok (.getfield 18, 3) := by decide +kernel
theorem d_In_findDependencies_123 : decode prog_4_method_3_code 123 = .ok (.getfield 95, 3) := by decide +kernel
theorem d_In_findDependencies_126 : decode prog_4_method_3_code 126 = .ok (.aload_n 0, 1) := by decide +kernel
theorem d_In_findDependencies_127 : decode prog_4_method_3_code 127 = .ok (.getfield 18, 3) := by decide +kernel
theorem d_In_findDependencies_130 : decode prog_4_method_3_code 130 = .ok (.getfield 84, 3) := by decide +kernel
theorem d_In_findDependencies_133 : decode prog_4_method_3_code 133 = .ok (.iconst 1, 1) := by decide +kernel
theorem d_In_findDependencies_134 : decode prog_4_method_3_code 134 = .ok (.iadd, 1) := by decide +kernel
theorem d_In_findDependencies_135 : decode prog_4_method_3_code 135 = .ok (.iload 4, 2) := by decide +kernel
theorem d_In_findDependencies_137 : decode prog_4_method_3_code 137 = .ok (.iload_n 3, 1) := by decide +kernel
theorem d_In_findDependencies_138 : decode prog_4_method_3_code 138 = .ok (.iadd, 1) := by decide +kernel
theorem d_In_findDependencies_139 : decode prog_4_method_3_code 139 = .ok (.iastore, 1) := by decide +kernel
theorem d_In_findDependencies_140 : decode prog_4_method_3_code 140 = .ok (.iconst 1, 1) := by decide +kernel
theorem d_In_findDependencies_141 : decode prog_4_method_3_code 141 = .ok (.ireturn, 1) := by decide +kernel
/-- q is the patch with the hash at j -/
def isP (hf : Nat → Int32) (Bh : Nat → Nat) (P : Nat) (g : Nat → Int32) (j q : Nat) : Prop := ∃ i, i < P ∧ sq hf (Bh i * 32) 32 = sq g j 32 ∧ q = Bh i
theorem isP.uniq {hf g : Nat → Int32} {Bh : Nat → Nat} {P j q1 q2 : Nat} (hu : hs_up hf Bh P) (h1 : isP hf Bh P g j q1) (h2 : isP hf Bh P g j q2) : q1 = q2 := by
  obtain ⟨i, hi, e1, rfl⟩ := h1
  obtain ⟨k, hk, e2, rfl⟩ := h2
  rcases Nat.lt_trichotomy i k with z | z | z
  · exact absurd (e2 ▸ e1 ▸ hu i k z hk) (List.lt_irrefl _)
  · rw [z]
  · exact absurd (e1 ▸ e2 ▸ hu k i z hi) (List.lt_irrefl _)
noncomputable def pQ (hf : Nat → Int32) (Bh : Nat → Nat) (P : Nat) (g : Nat → Int32) (j : Nat) : Nat := @dite _ (∃ q, isP hf Bh P g j q) (Classical.propDecidable _) (fun h => h.choose) (fun _ => 0)
theorem pQ_eq {hf g : Nat → Int32} {Bh : Nat → Nat} {P j q : Nat} (hu : hs_up hf Bh P) (h : isP hf Bh P g j q) : pQ hf Bh P g j = q := by
  unfold pQ
  rw [dif_pos ⟨q, h⟩]
  exact isP.uniq hu (Exists.choose_spec (⟨q, h⟩ : ∃ q, isP hf Bh P g j q)) h
theorem re_m1 {mw : Nat → Int64} : ¬ re_ok mw (-1) := by
  rintro ⟨n, hn, e, -⟩
  exact nI_nm1 (by omega) e
/-- the k-th dependency is a patch of the set -/
def depOk (hf : Nat → Int32) (Bh : Nat → Nat) (P : Nat) (f : Nat → Int32) (mw : Nat → Int64) (s0 k : Nat) : Prop := ∃ q, isP hf Bh P f (s0 + 2 + k * 32) q ∧ re_ok mw (nI q)
set_option maxHeartbeats 4000000 in
set_option maxRecDepth 100000 in
/-- the dependencies of the candidate -/
theorem m_In_findDependencies (l : Launch) (dC : Nat → ClassId) (dI : Nat → Nat → Nat) (cI cB cL cZ cR : ClassId) (h sk b_y fr fdA dpA hs bh rr mb : Nat) (it_changes it_lines it_sha it_form it_named it_linesOfFile it_nextFile it_nextLine sk_firstChange sk_leansOn sk_leantBy sk_changes sk_lines rr_digest rr_size rr_version rr_digestVersion : Value) (f frf fdf dpf hf bf : Nat → Int32) (mw : Nat → Int64) (P F s0 : Nat) (Bh : Nat → Nat) (sz : Nat) (hs0 : frf P = nI s0) (hs1 : s0 + 2 + tw f s0 * 32 + 2 ≤ 290000) (hP5 : P ≤ 500) (hF : fdf P = nI F) (hroom : ∀ k, k < tw f s0 → F + k < 8400) (hF2 : F ≤ 8400) (gB : ∀ i, i < P → bf i = nI (Bh i) ∧ Bh i ≤ 500) (gU : hs_up hf Bh P) : Met l y_In_findDependencies ws_In_findDependencies ({ frames := 3, cells := 0, slots := 0, locals := 200 }) (xw_Pc dC dI [(cI, .int), (cB, .byte), (cL, .long), (cZ, .boolean), (cR, .object "PatchStore$Repository")] [.ref h, .ref rr] [(h, .inr (3, [.ref sk, it_changes, it_lines, it_sha, it_form, it_named, it_linesOfFile, it_nextFile, it_nextLine])), (sk, .inr (9, [.ref b_y, .ref fr, .ref fdA, sk_firstChange, .ref dpA, .ref hs, .ref bh, sk_leansOn, sk_leantBy, sk_changes, sk_lines, .int (nI P)])), (b_y, .inl (cB, 290000, .inl f)), (fr, .inl (cI, 502, .inl frf)), (fdA, .inl (cI, 502, .inl fdf)), (dpA, .inl (cI, 8400, .inl dpf)), (hs, .inl (cB, 16032, .inl hf)), (bh, .inl (cI, 500, .inl bf)), (rr, .inr (7, [.ref mb, rr_digest, rr_size, rr_version, rr_digestVersion])), (mb, .inl (cL, 8, .inr (.inl mw)))] sz) (va_Qi (fun (r : Int32) (u : (Nat → Int32) × (Nat → Int32)) => ((r = 1 ∧ (∀ j, j < tw f s0 → depOk hf Bh P f mw s0 j) ∧ (∀ j, j < tw f s0 → u.1 (F + j) = nI (pQ hf Bh P f (s0 + 2 + j * 32))) ∧ u.2 = upd fdf (P + 1) (nI (F + tw f s0))) ∨ (r = 0 ∧ ¬ ∀ j, j < tw f s0 → depOk hf Bh P f mw s0 j)) ∧ (∀ j, j < F → u.1 j = dpf j) ∧ (∀ j, j ≤ P → u.2 j = fdf j)) (fun u t => xw_B dC dI [(cI, .int), (cB, .byte), (cL, .long), (cZ, .boolean), (cR, .object "PatchStore$Repository")] (va_A [(h, .inr (3, [.ref sk, it_changes, it_lines, it_sha, it_form, it_named, it_linesOfFile, it_nextFile, it_nextLine])), (sk, .inr (9, [.ref b_y, .ref fr, .ref fdA, sk_firstChange, .ref dpA, .ref hs, .ref bh, sk_leansOn, sk_leantBy, sk_changes, sk_lines, .int (nI P)])), (b_y, .inl (cB, 290000, .inl f)), (fr, .inl (cI, 502, .inl frf)), (fdA, .inl (cI, 502, .inl fdf)), (dpA, .inl (cI, 8400, .inl dpf)), (hs, .inl (cB, 16032, .inl hf)), (bh, .inl (cI, 500, .inl bf)), (rr, .inr (7, [.ref mb, rr_digest, rr_size, rr_version, rr_digestVersion])), (mb, .inl (cL, 8, .inr (.inl mw)))] sz) [(h, .inr (3, [.ref sk, it_changes, it_lines, it_sha, it_form, it_named, it_linesOfFile, it_nextFile, it_nextLine])), (sk, .inr (9, [.ref b_y, .ref fr, .ref fdA, sk_firstChange, .ref dpA, .ref hs, .ref bh, sk_leansOn, sk_leantBy, sk_changes, sk_lines, .int (nI P)])), (b_y, .inl (cB, 290000, .inl f)), (fr, .inl (cI, 502, .inl frf)), (fdA, .inl (cI, 502, .inl u.2)), (dpA, .inl (cI, 8400, .inl u.1)), (hs, .inl (cB, 16032, .inl hf)), (bh, .inl (cI, 500, .inl bf)), (rr, .inr (7, [.ref mb, rr_digest, rr_size, rr_version, rr_digestVersion])), (mb, .inl (cL, 8, .inr (.inl mw)))] t) (va_A [(h, .inr (3, [.ref sk, it_changes, it_lines, it_sha, it_form, it_named, it_linesOfFile, it_nextFile, it_nextLine])), (sk, .inr (9, [.ref b_y, .ref fr, .ref fdA, sk_firstChange, .ref dpA, .ref hs, .ref bh, sk_leansOn, sk_leantBy, sk_changes, sk_lines, .int (nI P)])), (b_y, .inl (cB, 290000, .inl f)), (fr, .inl (cI, 502, .inl frf)), (fdA, .inl (cI, 502, .inl fdf)), (dpA, .inl (cI, 8400, .inl dpf)), (hs, .inl (cB, 16032, .inl hf)), (bh, .inl (cI, 500, .inl bf)), (rr, .inr (7, [.ref mb, rr_digest, rr_size, rr_version, rr_digestVersion])), (mb, .inl (cL, 8, .inr (.inl mw)))] sz)) 0 0 (va_A [(h, .inr (3, [.ref sk, it_changes, it_lines, it_sha, it_form, it_named, it_linesOfFile, it_nextFile, it_nextLine])), (sk, .inr (9, [.ref b_y, .ref fr, .ref fdA, sk_firstChange, .ref dpA, .ref hs, .ref bh, sk_leansOn, sk_leantBy, sk_changes, sk_lines, .int (nI P)])), (b_y, .inl (cB, 290000, .inl f)), (fr, .inl (cI, 502, .inl frf)), (fdA, .inl (cI, 502, .inl fdf)), (dpA, .inl (cI, 8400, .inl dpf)), (hs, .inl (cB, 16032, .inl hf)), (bh, .inl (cI, 500, .inl bf)), (rr, .inr (7, [.ref mb, rr_digest, rr_size, rr_version, rr_digestVersion])), (mb, .inl (cL, 8, .inr (.inl mw)))] sz) := by
  refine Met.ofW (cc := prog_4_method_3_code) (maxL := 7) (ret := (Option.some Jvm.ClassFile.FieldType.boolean)) (by decide) rfl ?_
  intro p e s m args below meth c s₁ B hml hv
  obtain ⟨rfl, hsz, hP, hK, hD0⟩ := hv
  have hx := B.exec
  have hb := B.bytes
  have hr := B.returns
  have hts0 := atoms_spec (ws := ws_In_findDependencies) B.pre
  have hts : ∀ w ∈ xg_1, w.before _ s = true := fun w h => hts0 w (List.mem_cons_of_mem _ h)
  have hown : s.vm.findClass "PatchStore$Intake" = some m.cls := findClass_of_methodNamed B.named
  have hlocks := B.notSynchronized
  subst hsz
  have hD := hD0.self (sz := s.heap.size)
  generalize hAe : va_A [(h, .inr (3, [.ref sk, it_changes, it_lines, it_sha, it_form, it_named, it_linesOfFile, it_nextFile, it_nextLine])), (sk, .inr (9, [.ref b_y, .ref fr, .ref fdA, sk_firstChange, .ref dpA, .ref hs, .ref bh, sk_leansOn, sk_leantBy, sk_changes, sk_lines, .int (nI P)])), (b_y, .inl (cB, 290000, .inl f)), (fr, .inl (cI, 502, .inl frf)), (fdA, .inl (cI, 502, .inl fdf)), (dpA, .inl (cI, 8400, .inl dpf)), (hs, .inl (cB, 16032, .inl hf)), (bh, .inl (cI, 500, .inl bf)), (rr, .inr (7, [.ref mb, rr_digest, rr_size, rr_version, rr_digestVersion])), (mb, .inl (cL, 8, .inr (.inl mw)))] s.heap.size = A at hD ⊢
  have hA : ∀ q : Nat, s.heap.size ≤ q → A q := fun q h => by rw [← hAe]; exact Or.inr h
  have hS : va_S A s.heap s.heap [] := va_S.rf
  have hl := lv_entry ([.ref h, .ref rr]) (n := 7) (Nat.le_of_ble_eq_true rfl)
  rw [lg_entry_eq]
  generalize (lg_sl ([.ref h, .ref rr]) ++ List.replicate (7 - (lg_sl ([.ref h, .ref rr])).length) Slot.unset).toArray = ls at hl ⊢
  have hl : lv_has ls 7 [(0, .ref h), (1, .ref rr)] := hl
  generalize hQe : MQ _ _ _ _ _ _ _ = Q
  refine lv_aload_n hx hb d_In_findDependencies_0 rfl (lv_at hl 0 rfl) ?_
  refine va_get (D := (dC, dI)) (ci := 3) (v := .ref sk) (C := R_In) (T := F_In) (N := 9) hx hb hts i_In hown hK hP 0 rfl rfl 0 (by decide) (hts _ gw_284) (fun _ h9 => h9) rfl d_In_findDependencies_1 ?_
  refine va_get (D := (dC, dI)) (ci := 9) (v := .ref fr) (C := R_St) (T := F_St) (N := 12) hx hb hts i_St hown hK hP 1 rfl rfl 1 (by decide) (hts _ gw_191) (fun _ h9 => h9) rfl d_In_findDependencies_4 ?_
  refine lv_aload_n hx hb d_In_findDependencies_7 rfl (lv_at hl 0 rfl) ?_
  refine va_get (D := (dC, dI)) (ci := 3) (v := .ref sk) (C := R_In) (T := F_In) (N := 9) hx hb hts i_In hown hK hP 0 rfl rfl 0 (by decide) (hts _ gw_284) (fun _ h9 => h9) rfl d_In_findDependencies_8 ?_
  refine va_get (D := (dC, dI)) (ci := 9) (v := .int (nI P)) (C := R_St) (T := F_St) (N := 12) hx hb hts i_St hown hK hP 1 rfl rfl 11 (by decide) (hts _ gw_238) (fun _ h9 => h9) rfl d_In_findDependencies_11 ?_
  refine va_iald hx hb hK hP 3 0 rfl rfl (vp_in_nI (by omega) (by omega)) d_In_findDependencies_14 ?_
  rw [show (nI P).toNatClampNeg = P from nI_clamp (by omega)]
  refine lv_topi (fun x_1 ex_1 => ?_)
  obtain rfl : x_1 = nI s0 := by rw [ex_1]; first | done | (exact hs0)
  refine lv_istore_n (lv' := [(2, .int (nI s0)), (0, .ref h), (1, .ref rr)]) hx hb d_In_findDependencies_15 rfl hl (by decide) rfl (fun ls hl => ?_)
  refine lv_aload_n hx hb d_In_findDependencies_16 rfl (lv_at hl 1 rfl) ?_
  refine va_get (D := (dC, dI)) (ci := 3) (v := .ref sk) (C := R_In) (T := F_In) (N := 9) hx hb hts i_In hown hK hP 0 rfl rfl 0 (by decide) (hts _ gw_284) (fun _ h9 => h9) rfl d_In_findDependencies_17 ?_
  refine lv_iload_n hx hb d_In_findDependencies_20 rfl (lv_at hl 0 rfl) ?_
  have hPc := hP.sub (ws' := [(sk, .inr (9, [.ref b_y, .ref fr, .ref fdA, sk_firstChange, .ref dpA, .ref hs, .ref bh, sk_leansOn, sk_leantBy, sk_changes, sk_lines, .int (nI P)])), (b_y, .inl (cB, 290000, .inl f))]) [1, 2] rfl
  have hDc := hD.sub (ws' := [(sk, .inr (9, [.ref b_y, .ref fr, .ref fdA, sk_firstChange, .ref dpA, .ref hs, .ref bh, sk_leansOn, sk_leantBy, sk_changes, sk_lines, .int (nI P)])), (b_y, .inl (cB, 290000, .inl f))]) [1, 2] (by decide) rfl
  have hFc := va_free (wc := [(sk, .inr (9, [.ref b_y, .ref fr, .ref fdA, sk_firstChange, .ref dpA, .ref hs, .ref bh, sk_leansOn, sk_leantBy, sk_changes, sk_lines, .int (nI P)])), (b_y, .inl (cB, 290000, .inl f))]) hD hS hA [1, 2] rfl
  refine va_calli (va_runV (As := [.int (nI s0)]) (rest := []) ⟨hx, hb, hml, hown, hts⟩ (m_St_two l dC dI cI cB cL cZ cR sk b_y (.ref fr) (.ref fdA) (sk_firstChange) (.ref dpA) (.ref hs) (.ref bh) (sk_leansOn) (sk_leantBy) (sk_changes) (sk_lines) (.int (nI P)) f s0 s.heap.size (by omega)) (cwV 1 hts (xg_V gw_815 gw_771 gw_772 gw_3 gw_773) rfl rfl rfl (by decide +kernel) ⟨Nat.le_of_ble_eq_true rfl, Nat.le_of_ble_eq_true rfl⟩) ⟨xw_blind, va_recv hK hPc (ci := 9) (q0 := 0) rfl rfl, fun U hU hW => ⟨rfl, by rw [hU], by rw [hU]; exact hPc, va_K.moved hW.alike hK, hDc.weaken (fun _ _ _ _ => trivial)⟩⟩ rfl rfl hl.1 rfl (lv_room (Nat.le_of_ble_eq_true rfl)) d_In_findDependencies_21 ⟨Nat.le_of_ble_eq_true rfl, Nat.le_of_ble_eq_true rfl⟩) hS (fun q _ h => hFc q h) hFc (fun r9 u t H1 locs ht hvm hw hB hz1 hk1 hS => ?_)
  obtain ⟨hP1, hK1, hD1⟩ := hB
  rw [ht] at hP1
  obtain ⟨hP, hD⟩ := va_join (wr := [(h, .inr (3, [.ref sk, it_changes, it_lines, it_sha, it_form, it_named, it_linesOfFile, it_nextFile, it_nextLine])), (fr, .inl (cI, 502, .inl frf)), (fdA, .inl (cI, 502, .inl fdf)), (dpA, .inl (cI, 8400, .inl dpf)), (hs, .inl (cB, 16032, .inl hf)), (bh, .inl (cI, 500, .inl bf)), (rr, .inr (7, [.ref mb, rr_digest, rr_size, rr_version, rr_digestVersion])), (mb, .inl (cL, 8, .inr (.inl mw)))]) (w1 := [(sk, .inr (9, [.ref b_y, .ref fr, .ref fdA, sk_firstChange, .ref dpA, .ref hs, .ref bh, sk_leansOn, sk_leantBy, sk_changes, sk_lines, .int (nI P)])), (b_y, .inl (cB, 290000, .inl f))]) hP hD [1, 2] [0, 3, 4, 5, 6, 7, 8, 9] rfl rfl (by decide) (by decide) hk1 hFc hP1 hD1
  generalize H1 = H at hP hS ⊢
  have hP : va_P (dC, dI) classes [(h, .inr (3, [.ref sk, it_changes, it_lines, it_sha, it_form, it_named, it_linesOfFile, it_nextFile, it_nextLine])), (fr, .inl (cI, 502, .inl frf)), (fdA, .inl (cI, 502, .inl fdf)), (dpA, .inl (cI, 8400, .inl dpf)), (hs, .inl (cB, 16032, .inl hf)), (bh, .inl (cI, 500, .inl bf)), (rr, .inr (7, [.ref mb, rr_digest, rr_size, rr_version, rr_digestVersion])), (mb, .inl (cL, 8, .inr (.inl mw))), (sk, .inr (9, [.ref b_y, .ref fr, .ref fdA, sk_firstChange, .ref dpA, .ref hs, .ref bh, sk_leansOn, sk_leantBy, sk_changes, sk_lines, .int (nI P)])), (b_y, .inl (cB, 290000, .inl f))] H := hP
  have hD : va_D A [(h, .inr (3, [.ref sk, it_changes, it_lines, it_sha, it_form, it_named, it_linesOfFile, it_nextFile, it_nextLine])), (fr, .inl (cI, 502, .inl frf)), (fdA, .inl (cI, 502, .inl fdf)), (dpA, .inl (cI, 8400, .inl dpf)), (hs, .inl (cB, 16032, .inl hf)), (bh, .inl (cI, 500, .inl bf)), (rr, .inr (7, [.ref mb, rr_digest, rr_size, rr_version, rr_digestVersion])), (mb, .inl (cL, 8, .inr (.inl mw))), (sk, .inr (9, [.ref b_y, .ref fr, .ref fdA, sk_firstChange, .ref dpA, .ref hs, .ref bh, sk_leansOn, sk_leantBy, sk_changes, sk_lines, .int (nI P)])), (b_y, .inl (cB, 290000, .inl f))] := hD
  subst hw
  have htw9 := tw_lt f s0
  refine lv_istore_n (lv' := [(3, .int (nI (tw f s0))), (2, .int (nI s0)), (0, .ref h), (1, .ref rr)]) hx hb d_In_findDependencies_24 rfl hl (by decide) rfl (fun ls hl => ?_)
  refine lv_aload_n hx hb d_In_findDependencies_25 rfl (lv_at hl 2 rfl) ?_
  refine va_get (D := (dC, dI)) (ci := 3) (v := .ref sk) (C := R_In) (T := F_In) (N := 9) hx hb hts i_In hown hK hP 0 rfl rfl 0 (by decide) (hts _ gw_284) (fun _ h9 => h9) rfl d_In_findDependencies_26 ?_
  refine va_get (D := (dC, dI)) (ci := 9) (v := .ref fdA) (C := R_St) (T := F_St) (N := 12) hx hb hts i_St hown hK hP 8 rfl rfl 2 (by decide) (hts _ gw_195) (fun _ h9 => h9) rfl d_In_findDependencies_29 ?_
  refine lv_aload_n hx hb d_In_findDependencies_32 rfl (lv_at hl 2 rfl) ?_
  refine va_get (D := (dC, dI)) (ci := 3) (v := .ref sk) (C := R_In) (T := F_In) (N := 9) hx hb hts i_In hown hK hP 0 rfl rfl 0 (by decide) (hts _ gw_284) (fun _ h9 => h9) rfl d_In_findDependencies_33 ?_
  refine va_get (D := (dC, dI)) (ci := 9) (v := .int (nI P)) (C := R_St) (T := F_St) (N := 12) hx hb hts i_St hown hK hP 8 rfl rfl 11 (by decide) (hts _ gw_238) (fun _ h9 => h9) rfl d_In_findDependencies_36 ?_
  refine va_iald hx hb hK hP 2 0 rfl rfl (vp_in_nI (by omega) (by omega)) d_In_findDependencies_39 ?_
  rw [show (nI P).toNatClampNeg = P from nI_clamp (by omega)]
  refine lv_topi (fun x_2 ex_2 => ?_)
  obtain rfl : x_2 = nI F := by rw [ex_2]; first | done | (exact hF)
  refine lv_istore (lv' := [(4, .int (nI F)), (3, .int (nI (tw f s0))), (2, .int (nI s0)), (0, .ref h), (1, .ref rr)]) hx hb d_In_findDependencies_40 hl (by decide) rfl (fun ls hl => ?_)
  refine lv_iconst (v := 0) hx hb d_In_findDependencies_42 (by decide) ?_
  refine lv_istore (lv' := [(5, .int 0), (4, .int (nI F)), (3, .int (nI (tw f s0))), (2, .int (nI s0)), (0, .ref h), (1, .ref rr)]) hx hb d_In_findDependencies_43 hl (by decide) rfl (fun ls hl => ?_)
  have loop_45 : ∀ (n9 : Nat) (k : Nat) (dp : Nat → Int32) (H : Heap) (locs : List Loc) (ls : Array Slot), tw f s0 - k < n9 → (k ≤ tw f s0) → (∀ j, j < k → depOk hf Bh P f mw s0 j) → (∀ j, j < k → dp (F + j) = nI (pQ hf Bh P f (s0 + 2 + j * 32))) → (∀ j, j < F → dp j = dpf j) → va_P (dC, dI) classes [(h, .inr (3, [.ref sk, it_changes, it_lines, it_sha, it_form, it_named, it_linesOfFile, it_nextFile, it_nextLine])), (sk, .inr (9, [.ref b_y, .ref fr, .ref fdA, sk_firstChange, .ref dpA, .ref hs, .ref bh, sk_leansOn, sk_leantBy, sk_changes, sk_lines, .int (nI P)])), (b_y, .inl (cB, 290000, .inl f)), (fr, .inl (cI, 502, .inl frf)), (fdA, .inl (cI, 502, .inl fdf)), (dpA, .inl (cI, 8400, .inl dp)), (hs, .inl (cB, 16032, .inl hf)), (bh, .inl (cI, 500, .inl bf)), (rr, .inr (7, [.ref mb, rr_digest, rr_size, rr_version, rr_digestVersion])), (mb, .inl (cL, 8, .inr (.inl mw)))] H → va_D A [(h, .inr (3, [.ref sk, it_changes, it_lines, it_sha, it_form, it_named, it_linesOfFile, it_nextFile, it_nextLine])), (sk, .inr (9, [.ref b_y, .ref fr, .ref fdA, sk_firstChange, .ref dpA, .ref hs, .ref bh, sk_leansOn, sk_leantBy, sk_changes, sk_lines, .int (nI P)])), (b_y, .inl (cB, 290000, .inl f)), (fr, .inl (cI, 502, .inl frf)), (fdA, .inl (cI, 502, .inl fdf)), (dpA, .inl (cI, 8400, .inl dp)), (hs, .inl (cB, 16032, .inl hf)), (bh, .inl (cI, 500, .inl bf)), (rr, .inr (7, [.ref mb, rr_digest, rr_size, rr_version, rr_digestVersion])), (mb, .inl (cL, 8, .inr (.inl mw)))] → va_S A s.heap H locs → lv_has ls 7 [(0, .ref h), (1, .ref rr), (2, .int (nI s0)), (3, .int (nI (tw f s0))), (4, .int (nI F)), (5, .int (nI k))] → W p l e (headSpec ws_In_findDependencies ({ frames := 3, cells := 0, slots := 0, locals := 200 })).room s m ([.ref h, .ref rr] : List Value).toArray below meth c H locs 0 0 Q (F0 m 45 ls []) := by
    intro n9
    induction n9 with
    | zero => intro k dp H locs ls hm; exact absurd hm (Nat.not_lt_zero _)
    | succ n9 ih_45 =>
      intro k dp H locs ls hm hk hok hdp hfr hP hD hS hl
      have htw := tw_lt f s0
      refine lv_iload hx hb d_In_findDependencies_45 (lv_at hl 5 rfl) ?_
      refine lv_iload_n hx hb d_In_findDependencies_47 rfl (lv_at hl 3 rfl) ?_
      refine lv_icmp_ge (tgt := 119) hx hb d_In_findDependencies_48 (by decide) (fun c_48 => ?_) (fun c_48 => ?_)
      · have n_48 : (tw f s0) ≤ k := (nI_leI (a := (tw f s0)) (b := k) (by omega) (by omega)).mp c_48
        refine lv_aload_n hx hb d_In_findDependencies_119 rfl (lv_at hl 0 rfl) ?_
        refine va_get (D := (dC, dI)) (ci := 3) (v := .ref sk) (C := R_In) (T := F_In) (N := 9) hx hb hts i_In hown hK hP 0 rfl rfl 0 (by decide) (hts _ gw_284) (fun _ h9 => h9) rfl d_In_findDependencies_120 ?_
        refine va_get (D := (dC, dI)) (ci := 9) (v := .ref fdA) (C := R_St) (T := F_St) (N := 12) hx hb hts i_St hown hK hP 1 rfl rfl 2 (by decide) (hts _ gw_195) (fun _ h9 => h9) rfl d_In_findDependencies_123 ?_
        refine lv_aload_n hx hb d_In_findDependencies_126 rfl (lv_at hl 0 rfl) ?_
        refine va_get (D := (dC, dI)) (ci := 3) (v := .ref sk) (C := R_In) (T := F_In) (N := 9) hx hb hts i_In hown hK hP 0 rfl rfl 0 (by decide) (hts _ gw_284) (fun _ h9 => h9) rfl d_In_findDependencies_127 ?_
        refine va_get (D := (dC, dI)) (ci := 9) (v := .int (nI P)) (C := R_St) (T := F_St) (N := 12) hx hb hts i_St hown hK hP 1 rfl rfl 11 (by decide) (hts _ gw_238) (fun _ h9 => h9) rfl d_In_findDependencies_130 ?_
        refine lv_iconst (v := 1) hx hb d_In_findDependencies_133 (by decide) ?_
        refine lv_iadd hx hb d_In_findDependencies_134 ?_
        refine lv_topi (fun x_3 ex_3 => ?_)
        obtain rfl : x_3 = nI (P + 1) := by rw [ex_3]; first | done | (exact nI_add _ _)
        refine lv_iload hx hb d_In_findDependencies_135 (lv_at hl 4 rfl) ?_
        refine lv_iload_n hx hb d_In_findDependencies_137 rfl (lv_at hl 3 rfl) ?_
        refine lv_iadd hx hb d_In_findDependencies_138 ?_
        refine lv_topi (fun x_4 ex_4 => ?_)
        obtain rfl : x_4 = nI (F + (tw f s0)) := by rw [ex_4]; first | done | (exact nI_add _ _)
        refine va_iast hx hb hK hP hD hS 4 0 rfl rfl (vp_in_nI (by omega) (by omega)) d_In_findDependencies_139 (fun H locs hP hD hS => ?_)
        rw [show (nI (P + 1)).toNatClampNeg = (P + 1) from nI_clamp (by omega)] at hP hD
        have hP : va_P (dC, dI) classes [(h, .inr (3, [.ref sk, it_changes, it_lines, it_sha, it_form, it_named, it_linesOfFile, it_nextFile, it_nextLine])), (sk, .inr (9, [.ref b_y, .ref fr, .ref fdA, sk_firstChange, .ref dpA, .ref hs, .ref bh, sk_leansOn, sk_leantBy, sk_changes, sk_lines, .int (nI P)])), (b_y, .inl (cB, 290000, .inl f)), (fr, .inl (cI, 502, .inl frf)), (fdA, .inl (cI, 502, .inl (upd fdf (P + 1) (nI (F + (tw f s0)))))), (dpA, .inl (cI, 8400, .inl dp)), (hs, .inl (cB, 16032, .inl hf)), (bh, .inl (cI, 500, .inl bf)), (rr, .inr (7, [.ref mb, rr_digest, rr_size, rr_version, rr_digestVersion])), (mb, .inl (cL, 8, .inr (.inl mw)))] H := hP
        have hD : va_D A [(h, .inr (3, [.ref sk, it_changes, it_lines, it_sha, it_form, it_named, it_linesOfFile, it_nextFile, it_nextLine])), (sk, .inr (9, [.ref b_y, .ref fr, .ref fdA, sk_firstChange, .ref dpA, .ref hs, .ref bh, sk_leansOn, sk_leantBy, sk_changes, sk_lines, .int (nI P)])), (b_y, .inl (cB, 290000, .inl f)), (fr, .inl (cI, 502, .inl frf)), (fdA, .inl (cI, 502, .inl (upd fdf (P + 1) (nI (F + (tw f s0)))))), (dpA, .inl (cI, 8400, .inl dp)), (hs, .inl (cB, 16032, .inl hf)), (bh, .inl (cI, 500, .inl bf)), (rr, .inr (7, [.ref mb, rr_digest, rr_size, rr_version, rr_digestVersion])), (mb, .inl (cL, 8, .inr (.inl mw)))] := hD
        refine lv_iconst (v := 1) hx hb d_In_findDependencies_140 (by decide) ?_
        rw [← hQe]
        exact W.zret (v := 1) hx hb hr nz_b1 (fun t ht hW => ⟨⟨_, (dp, upd fdf (P + 1) (nI (F + (tw f s0)))), rfl, ⟨Or.inl ⟨rfl, fun j z => hok j (by omega), fun j z => hdp j (by omega), rfl⟩, hfr, fun j z => upd_ne _ (by omega)⟩, by rw [ht]; exact hP, va_K.moved hW.alike hK, hD⟩, hS.F ht⟩) hS.2.2 d_In_findDependencies_141
      · have n_48 : k < (tw f s0) := Nat.lt_of_not_le (fun z => c_48 ((nI_leI (a := (tw f s0)) (b := k) (by omega) (by omega)).mpr z))
        have hrk := hroom k n_48
        refine lv_aload_n hx hb d_In_findDependencies_51 rfl (lv_at hl 0 rfl) ?_
        refine va_get (D := (dC, dI)) (ci := 3) (v := .ref sk) (C := R_In) (T := F_In) (N := 9) hx hb hts i_In hown hK hP 0 rfl rfl 0 (by decide) (hts _ gw_284) (fun _ h9 => h9) rfl d_In_findDependencies_52 ?_
        refine lv_aload_n hx hb d_In_findDependencies_55 rfl (lv_at hl 0 rfl) ?_
        refine va_get (D := (dC, dI)) (ci := 3) (v := .ref sk) (C := R_In) (T := F_In) (N := 9) hx hb hts i_In hown hK hP 0 rfl rfl 0 (by decide) (hts _ gw_284) (fun _ h9 => h9) rfl d_In_findDependencies_56 ?_
        refine va_get (D := (dC, dI)) (ci := 9) (v := .ref b_y) (C := R_St) (T := F_St) (N := 12) hx hb hts i_St hown hK hP 1 rfl rfl 0 (by decide) (hts _ gw_184) (fun _ h9 => h9) rfl d_In_findDependencies_59 ?_
        refine lv_iload_n hx hb d_In_findDependencies_62 rfl (lv_at hl 2 rfl) ?_
        refine lv_iconst (v := 2) hx hb d_In_findDependencies_63 (by decide) ?_
        refine lv_iadd hx hb d_In_findDependencies_64 ?_
        refine lv_topi (fun x_5 ex_5 => ?_)
        obtain rfl : x_5 = nI (s0 + 2) := by rw [ex_5]; first | done | (exact nI_add _ _)
        refine lv_iload hx hb d_In_findDependencies_65 (lv_at hl 5 rfl) ?_
        refine lv_bipush (v := 32) hx hb d_In_findDependencies_67 (by decide) ?_
        refine lv_imul hx hb d_In_findDependencies_69 ?_
        refine lv_topi (fun x_6 ex_6 => ?_)
        obtain rfl : x_6 = nI (k * 32) := by rw [ex_6]; first | done | (exact nI_mul _ _)
        refine lv_iadd hx hb d_In_findDependencies_70 ?_
        refine lv_topi (fun x_7 ex_7 => ?_)
        obtain rfl : x_7 = nI (s0 + 2 + (k * 32)) := by rw [ex_7]; first | done | (exact nI_add _ _)
        have hPc := hP.sub (ws' := [(sk, .inr (9, [.ref b_y, .ref fr, .ref fdA, sk_firstChange, .ref dpA, .ref hs, .ref bh, sk_leansOn, sk_leantBy, sk_changes, sk_lines, .int (nI P)])), (hs, .inl (cB, 16032, .inl hf)), (bh, .inl (cI, 500, .inl bf)), (b_y, .inl (cB, 290000, .inl f))]) [1, 6, 7, 2] rfl
        have hDc := hD.sub (ws' := [(sk, .inr (9, [.ref b_y, .ref fr, .ref fdA, sk_firstChange, .ref dpA, .ref hs, .ref bh, sk_leansOn, sk_leantBy, sk_changes, sk_lines, .int (nI P)])), (hs, .inl (cB, 16032, .inl hf)), (bh, .inl (cI, 500, .inl bf)), (b_y, .inl (cB, 290000, .inl f))]) [1, 6, 7, 2] (by decide) rfl
        have hFc := va_free (wc := [(sk, .inr (9, [.ref b_y, .ref fr, .ref fdA, sk_firstChange, .ref dpA, .ref hs, .ref bh, sk_leansOn, sk_leantBy, sk_changes, sk_lines, .int (nI P)])), (hs, .inl (cB, 16032, .inl hf)), (bh, .inl (cI, 500, .inl bf)), (b_y, .inl (cB, 290000, .inl f))]) hD hS hA [1, 6, 7, 2] rfl
        refine va_calli (va_runV (As := [.ref b_y, .int (nI (s0 + 2 + (k * 32)))]) (rest := []) ⟨hx, hb, hml, hown, hts⟩ (m_St_patchWith l dC dI cI cB cL cZ cR sk hs bh b_y (.ref b_y) (.ref fr) (.ref fdA) (sk_firstChange) (.ref dpA) (sk_leansOn) (sk_leantBy) (sk_changes) (sk_lines) P (s0 + 2 + (k * 32)) 290000 hf bf f Bh H.size hP5 gB gU (by decide) (by omega)) (cwV 2 hts (xg_V gw_816 gw_817 gw_818 gw_3 gw_819) rfl rfl rfl (by decide +kernel) ⟨Nat.le_of_ble_eq_true rfl, Nat.le_of_ble_eq_true rfl⟩) ⟨xw_blind, va_recv hK hPc (ci := 9) (q0 := 0) rfl rfl, fun U hU hW => ⟨rfl, by rw [hU], by rw [hU]; exact hPc, va_K.moved hW.alike hK, hDc.weaken (fun _ _ _ _ => trivial)⟩⟩ rfl rfl hl.1 rfl (lv_room (Nat.le_of_ble_eq_true rfl)) d_In_findDependencies_71 ⟨Nat.le_of_ble_eq_true rfl, Nat.le_of_ble_eq_true rfl⟩) hS (fun q _ h => hFc q h) hFc (fun r9 u t H1 locs ht hvm hw hB hz1 hk1 hS => ?_)
        obtain ⟨hP1, hK1, hD1⟩ := hB
        rw [ht] at hP1
        obtain ⟨hP, hD⟩ := va_join (wr := [(h, .inr (3, [.ref sk, it_changes, it_lines, it_sha, it_form, it_named, it_linesOfFile, it_nextFile, it_nextLine])), (fr, .inl (cI, 502, .inl frf)), (fdA, .inl (cI, 502, .inl fdf)), (dpA, .inl (cI, 8400, .inl dp)), (rr, .inr (7, [.ref mb, rr_digest, rr_size, rr_version, rr_digestVersion])), (mb, .inl (cL, 8, .inr (.inl mw)))]) (w1 := [(sk, .inr (9, [.ref b_y, .ref fr, .ref fdA, sk_firstChange, .ref dpA, .ref hs, .ref bh, sk_leansOn, sk_leantBy, sk_changes, sk_lines, .int (nI P)])), (hs, .inl (cB, 16032, .inl hf)), (bh, .inl (cI, 500, .inl bf)), (b_y, .inl (cB, 290000, .inl f))]) hP hD [1, 6, 7, 2] [0, 3, 4, 5, 8, 9] rfl rfl (by decide) (by decide) hk1 hFc hP1 hD1
        generalize H1 = H at hP hS ⊢
        have hP : va_P (dC, dI) classes [(h, .inr (3, [.ref sk, it_changes, it_lines, it_sha, it_form, it_named, it_linesOfFile, it_nextFile, it_nextLine])), (fr, .inl (cI, 502, .inl frf)), (fdA, .inl (cI, 502, .inl fdf)), (dpA, .inl (cI, 8400, .inl dp)), (rr, .inr (7, [.ref mb, rr_digest, rr_size, rr_version, rr_digestVersion])), (mb, .inl (cL, 8, .inr (.inl mw))), (sk, .inr (9, [.ref b_y, .ref fr, .ref fdA, sk_firstChange, .ref dpA, .ref hs, .ref bh, sk_leansOn, sk_leantBy, sk_changes, sk_lines, .int (nI P)])), (hs, .inl (cB, 16032, .inl hf)), (bh, .inl (cI, 500, .inl bf)), (b_y, .inl (cB, 290000, .inl f))] H := hP
        have hD : va_D A [(h, .inr (3, [.ref sk, it_changes, it_lines, it_sha, it_form, it_named, it_linesOfFile, it_nextFile, it_nextLine])), (fr, .inl (cI, 502, .inl frf)), (fdA, .inl (cI, 502, .inl fdf)), (dpA, .inl (cI, 8400, .inl dp)), (rr, .inr (7, [.ref mb, rr_digest, rr_size, rr_version, rr_digestVersion])), (mb, .inl (cL, 8, .inr (.inl mw))), (sk, .inr (9, [.ref b_y, .ref fr, .ref fdA, sk_firstChange, .ref dpA, .ref hs, .ref bh, sk_leansOn, sk_leantBy, sk_changes, sk_lines, .int (nI P)])), (hs, .inl (cB, 16032, .inl hf)), (bh, .inl (cI, 500, .inl bf)), (b_y, .inl (cB, 290000, .inl f))] := hD
        rcases hw with ⟨rfl, hnone⟩ | ⟨ii, hii, heq, rfl⟩
        · have hP : va_P (dC, dI) classes [(h, .inr (3, [.ref sk, it_changes, it_lines, it_sha, it_form, it_named, it_linesOfFile, it_nextFile, it_nextLine])), (fr, .inl (cI, 502, .inl frf)), (fdA, .inl (cI, 502, .inl fdf)), (dpA, .inl (cI, 8400, .inl dp)), (rr, .inr (7, [.ref mb, rr_digest, rr_size, rr_version, rr_digestVersion])), (mb, .inl (cL, 8, .inr (.inl mw))), (sk, .inr (9, [.ref b_y, .ref fr, .ref fdA, sk_firstChange, .ref dpA, .ref hs, .ref bh, sk_leansOn, sk_leantBy, sk_changes, sk_lines, .int (nI P)])), (hs, .inl (cB, 16032, .inl hf)), (bh, .inl (cI, 500, .inl bf)), (b_y, .inl (cB, 290000, .inl f))] H := hP
          have hD : va_D A [(h, .inr (3, [.ref sk, it_changes, it_lines, it_sha, it_form, it_named, it_linesOfFile, it_nextFile, it_nextLine])), (fr, .inl (cI, 502, .inl frf)), (fdA, .inl (cI, 502, .inl fdf)), (dpA, .inl (cI, 8400, .inl dp)), (rr, .inr (7, [.ref mb, rr_digest, rr_size, rr_version, rr_digestVersion])), (mb, .inl (cL, 8, .inr (.inl mw))), (sk, .inr (9, [.ref b_y, .ref fr, .ref fdA, sk_firstChange, .ref dpA, .ref hs, .ref bh, sk_leansOn, sk_leantBy, sk_changes, sk_lines, .int (nI P)])), (hs, .inl (cB, 16032, .inl hf)), (bh, .inl (cI, 500, .inl bf)), (b_y, .inl (cB, 290000, .inl f))] := hD
          have hno : ¬ ∀ j, j < tw f s0 → depOk hf Bh P f mw s0 j := fun z => by
            obtain ⟨q, ⟨i, hi, e1, -⟩, -⟩ := z k n_48
            exact hnone i hi e1
          refine lv_istore (lv' := [(6, .int (-1)), (0, .ref h), (1, .ref rr), (2, .int (nI s0)), (3, .int (nI (tw f s0))), (4, .int (nI F)), (5, .int (nI k))]) hx hb d_In_findDependencies_74 hl (by decide) rfl (fun ls hl => ?_)
          refine lv_aload_n hx hb d_In_findDependencies_76 rfl (lv_at hl 2 rfl) ?_
          refine lv_iload hx hb d_In_findDependencies_77 (lv_at hl 0 rfl) ?_
          have hPc := hP.sub (ws' := [(rr, .inr (7, [.ref mb, rr_digest, rr_size, rr_version, rr_digestVersion])), (mb, .inl (cL, 8, .inr (.inl mw)))]) [4, 5] rfl
          have hDc := hD.sub (ws' := [(rr, .inr (7, [.ref mb, rr_digest, rr_size, rr_version, rr_digestVersion])), (mb, .inl (cL, 8, .inr (.inl mw)))]) [4, 5] (by decide) rfl
          have hFc := va_free (wc := [(rr, .inr (7, [.ref mb, rr_digest, rr_size, rr_version, rr_digestVersion])), (mb, .inl (cL, 8, .inr (.inl mw)))]) hD hS hA [4, 5] rfl
          refine va_calli (va_runV (As := [.int (-1)]) (rest := []) ⟨hx, hb, hml, hown, hts⟩ (m_Re_holds l dC dI cI cB cL cZ cR rr mb (rr_digest) (rr_size) (rr_version) (rr_digestVersion) mw (-1) H.size ) (cwV 1 hts (xg_V gw_825 gw_826 gw_827 gw_12 gw_828) rfl rfl rfl (by decide +kernel) ⟨Nat.le_of_ble_eq_true rfl, Nat.le_of_ble_eq_true rfl⟩) ⟨xw_blind, va_recv hK hPc (ci := 7) (q0 := 0) rfl rfl, fun U hU hW => ⟨rfl, by rw [hU], by rw [hU]; exact hPc, va_K.moved hW.alike hK, hDc.weaken (fun _ _ _ _ => trivial)⟩⟩ rfl rfl hl.1 rfl (lv_room (Nat.le_of_ble_eq_true rfl)) d_In_findDependencies_79 ⟨Nat.le_of_ble_eq_true rfl, Nat.le_of_ble_eq_true rfl⟩) hS (fun q _ h => hFc q h) hFc (fun r9 u t H1 locs ht hvm hw hB hz1 hk1 hS => ?_)
          obtain ⟨hP1, hK1, hD1⟩ := hB
          rw [ht] at hP1
          obtain ⟨hP, hD⟩ := va_join (wr := [(h, .inr (3, [.ref sk, it_changes, it_lines, it_sha, it_form, it_named, it_linesOfFile, it_nextFile, it_nextLine])), (fr, .inl (cI, 502, .inl frf)), (fdA, .inl (cI, 502, .inl fdf)), (dpA, .inl (cI, 8400, .inl dp)), (sk, .inr (9, [.ref b_y, .ref fr, .ref fdA, sk_firstChange, .ref dpA, .ref hs, .ref bh, sk_leansOn, sk_leantBy, sk_changes, sk_lines, .int (nI P)])), (hs, .inl (cB, 16032, .inl hf)), (bh, .inl (cI, 500, .inl bf)), (b_y, .inl (cB, 290000, .inl f))]) (w1 := [(rr, .inr (7, [.ref mb, rr_digest, rr_size, rr_version, rr_digestVersion])), (mb, .inl (cL, 8, .inr (.inl mw)))]) hP hD [4, 5] [0, 1, 2, 3, 6, 7, 8, 9] rfl rfl (by decide) (by decide) hk1 hFc hP1 hD1
          generalize H1 = H at hP hS ⊢
          have hP : va_P (dC, dI) classes [(h, .inr (3, [.ref sk, it_changes, it_lines, it_sha, it_form, it_named, it_linesOfFile, it_nextFile, it_nextLine])), (fr, .inl (cI, 502, .inl frf)), (fdA, .inl (cI, 502, .inl fdf)), (dpA, .inl (cI, 8400, .inl dp)), (sk, .inr (9, [.ref b_y, .ref fr, .ref fdA, sk_firstChange, .ref dpA, .ref hs, .ref bh, sk_leansOn, sk_leantBy, sk_changes, sk_lines, .int (nI P)])), (hs, .inl (cB, 16032, .inl hf)), (bh, .inl (cI, 500, .inl bf)), (b_y, .inl (cB, 290000, .inl f)), (rr, .inr (7, [.ref mb, rr_digest, rr_size, rr_version, rr_digestVersion])), (mb, .inl (cL, 8, .inr (.inl mw)))] H := hP
          have hD : va_D A [(h, .inr (3, [.ref sk, it_changes, it_lines, it_sha, it_form, it_named, it_linesOfFile, it_nextFile, it_nextLine])), (fr, .inl (cI, 502, .inl frf)), (fdA, .inl (cI, 502, .inl fdf)), (dpA, .inl (cI, 8400, .inl dp)), (sk, .inr (9, [.ref b_y, .ref fr, .ref fdA, sk_firstChange, .ref dpA, .ref hs, .ref bh, sk_leansOn, sk_leantBy, sk_changes, sk_lines, .int (nI P)])), (hs, .inl (cB, 16032, .inl hf)), (bh, .inl (cI, 500, .inl bf)), (b_y, .inl (cB, 290000, .inl f)), (rr, .inr (7, [.ref mb, rr_digest, rr_size, rr_version, rr_digestVersion])), (mb, .inl (cL, 8, .inr (.inl mw)))] := hD
          rcases hw with ⟨rfl, hh⟩ | ⟨rfl, hh⟩
          · exact absurd hh re_m1
          · have hP : va_P (dC, dI) classes [(h, .inr (3, [.ref sk, it_changes, it_lines, it_sha, it_form, it_named, it_linesOfFile, it_nextFile, it_nextLine])), (fr, .inl (cI, 502, .inl frf)), (fdA, .inl (cI, 502, .inl fdf)), (dpA, .inl (cI, 8400, .inl dp)), (sk, .inr (9, [.ref b_y, .ref fr, .ref fdA, sk_firstChange, .ref dpA, .ref hs, .ref bh, sk_leansOn, sk_leantBy, sk_changes, sk_lines, .int (nI P)])), (hs, .inl (cB, 16032, .inl hf)), (bh, .inl (cI, 500, .inl bf)), (b_y, .inl (cB, 290000, .inl f)), (rr, .inr (7, [.ref mb, rr_digest, rr_size, rr_version, rr_digestVersion])), (mb, .inl (cL, 8, .inr (.inl mw)))] H := hP
            have hD : va_D A [(h, .inr (3, [.ref sk, it_changes, it_lines, it_sha, it_form, it_named, it_linesOfFile, it_nextFile, it_nextLine])), (fr, .inl (cI, 502, .inl frf)), (fdA, .inl (cI, 502, .inl fdf)), (dpA, .inl (cI, 8400, .inl dp)), (sk, .inr (9, [.ref b_y, .ref fr, .ref fdA, sk_firstChange, .ref dpA, .ref hs, .ref bh, sk_leansOn, sk_leantBy, sk_changes, sk_lines, .int (nI P)])), (hs, .inl (cB, 16032, .inl hf)), (bh, .inl (cI, 500, .inl bf)), (b_y, .inl (cB, 290000, .inl f)), (rr, .inr (7, [.ref mb, rr_digest, rr_size, rr_version, rr_digestVersion])), (mb, .inl (cL, 8, .inr (.inl mw)))] := hD
            refine lv_if_eq (tgt := 96) hx hb d_In_findDependencies_82 (by decide) (fun _ => ?_) (fun c_82 => absurd (by decide) c_82)
            refine lv_iconst (v := 0) hx hb d_In_findDependencies_96 (by decide) ?_
            have hP := hP.sub (ws' := [(h, .inr (3, [.ref sk, it_changes, it_lines, it_sha, it_form, it_named, it_linesOfFile, it_nextFile, it_nextLine])), (sk, .inr (9, [.ref b_y, .ref fr, .ref fdA, sk_firstChange, .ref dpA, .ref hs, .ref bh, sk_leansOn, sk_leantBy, sk_changes, sk_lines, .int (nI P)])), (b_y, .inl (cB, 290000, .inl f)), (fr, .inl (cI, 502, .inl frf)), (fdA, .inl (cI, 502, .inl fdf)), (dpA, .inl (cI, 8400, .inl dp)), (hs, .inl (cB, 16032, .inl hf)), (bh, .inl (cI, 500, .inl bf)), (rr, .inr (7, [.ref mb, rr_digest, rr_size, rr_version, rr_digestVersion])), (mb, .inl (cL, 8, .inr (.inl mw)))]) [0, 4, 7, 1, 2, 3, 5, 6, 8, 9] rfl
            have hD := hD.sub (ws' := [(h, .inr (3, [.ref sk, it_changes, it_lines, it_sha, it_form, it_named, it_linesOfFile, it_nextFile, it_nextLine])), (sk, .inr (9, [.ref b_y, .ref fr, .ref fdA, sk_firstChange, .ref dpA, .ref hs, .ref bh, sk_leansOn, sk_leantBy, sk_changes, sk_lines, .int (nI P)])), (b_y, .inl (cB, 290000, .inl f)), (fr, .inl (cI, 502, .inl frf)), (fdA, .inl (cI, 502, .inl fdf)), (dpA, .inl (cI, 8400, .inl dp)), (hs, .inl (cB, 16032, .inl hf)), (bh, .inl (cI, 500, .inl bf)), (rr, .inr (7, [.ref mb, rr_digest, rr_size, rr_version, rr_digestVersion])), (mb, .inl (cL, 8, .inr (.inl mw)))]) [0, 4, 7, 1, 2, 3, 5, 6, 8, 9] (by decide) rfl
            rw [← hQe]
            exact W.zret (v := 0) hx hb hr nz_b0 (fun t ht hW => ⟨⟨_, (dp, fdf), rfl, ⟨Or.inr ⟨rfl, hno⟩, hfr, fun _ _ => rfl⟩, by rw [ht]; exact hP, va_K.moved hW.alike hK, hD⟩, hS.F ht⟩) hS.2.2 d_In_findDependencies_97
        · have hP : va_P (dC, dI) classes [(h, .inr (3, [.ref sk, it_changes, it_lines, it_sha, it_form, it_named, it_linesOfFile, it_nextFile, it_nextLine])), (fr, .inl (cI, 502, .inl frf)), (fdA, .inl (cI, 502, .inl fdf)), (dpA, .inl (cI, 8400, .inl dp)), (rr, .inr (7, [.ref mb, rr_digest, rr_size, rr_version, rr_digestVersion])), (mb, .inl (cL, 8, .inr (.inl mw))), (sk, .inr (9, [.ref b_y, .ref fr, .ref fdA, sk_firstChange, .ref dpA, .ref hs, .ref bh, sk_leansOn, sk_leantBy, sk_changes, sk_lines, .int (nI P)])), (hs, .inl (cB, 16032, .inl hf)), (bh, .inl (cI, 500, .inl bf)), (b_y, .inl (cB, 290000, .inl f))] H := hP
          have hD : va_D A [(h, .inr (3, [.ref sk, it_changes, it_lines, it_sha, it_form, it_named, it_linesOfFile, it_nextFile, it_nextLine])), (fr, .inl (cI, 502, .inl frf)), (fdA, .inl (cI, 502, .inl fdf)), (dpA, .inl (cI, 8400, .inl dp)), (rr, .inr (7, [.ref mb, rr_digest, rr_size, rr_version, rr_digestVersion])), (mb, .inl (cL, 8, .inr (.inl mw))), (sk, .inr (9, [.ref b_y, .ref fr, .ref fdA, sk_firstChange, .ref dpA, .ref hs, .ref bh, sk_leansOn, sk_leantBy, sk_changes, sk_lines, .int (nI P)])), (hs, .inl (cB, 16032, .inl hf)), (bh, .inl (cI, 500, .inl bf)), (b_y, .inl (cB, 290000, .inl f))] := hD
          have hisP : isP hf Bh P f (s0 + 2 + k * 32) (Bh ii) := ⟨ii, hii, heq, rfl⟩
          refine lv_istore (lv' := [(6, .int (nI (Bh ii))), (0, .ref h), (1, .ref rr), (2, .int (nI s0)), (3, .int (nI (tw f s0))), (4, .int (nI F)), (5, .int (nI k))]) hx hb d_In_findDependencies_74 hl (by decide) rfl (fun ls hl => ?_)
          refine lv_aload_n hx hb d_In_findDependencies_76 rfl (lv_at hl 2 rfl) ?_
          refine lv_iload hx hb d_In_findDependencies_77 (lv_at hl 0 rfl) ?_
          have hPc := hP.sub (ws' := [(rr, .inr (7, [.ref mb, rr_digest, rr_size, rr_version, rr_digestVersion])), (mb, .inl (cL, 8, .inr (.inl mw)))]) [4, 5] rfl
          have hDc := hD.sub (ws' := [(rr, .inr (7, [.ref mb, rr_digest, rr_size, rr_version, rr_digestVersion])), (mb, .inl (cL, 8, .inr (.inl mw)))]) [4, 5] (by decide) rfl
          have hFc := va_free (wc := [(rr, .inr (7, [.ref mb, rr_digest, rr_size, rr_version, rr_digestVersion])), (mb, .inl (cL, 8, .inr (.inl mw)))]) hD hS hA [4, 5] rfl
          refine va_calli (va_runV (As := [.int (nI (Bh ii))]) (rest := []) ⟨hx, hb, hml, hown, hts⟩ (m_Re_holds l dC dI cI cB cL cZ cR rr mb (rr_digest) (rr_size) (rr_version) (rr_digestVersion) mw (nI (Bh ii)) H.size ) (cwV 1 hts (xg_V gw_825 gw_826 gw_827 gw_12 gw_828) rfl rfl rfl (by decide +kernel) ⟨Nat.le_of_ble_eq_true rfl, Nat.le_of_ble_eq_true rfl⟩) ⟨xw_blind, va_recv hK hPc (ci := 7) (q0 := 0) rfl rfl, fun U hU hW => ⟨rfl, by rw [hU], by rw [hU]; exact hPc, va_K.moved hW.alike hK, hDc.weaken (fun _ _ _ _ => trivial)⟩⟩ rfl rfl hl.1 rfl (lv_room (Nat.le_of_ble_eq_true rfl)) d_In_findDependencies_79 ⟨Nat.le_of_ble_eq_true rfl, Nat.le_of_ble_eq_true rfl⟩) hS (fun q _ h => hFc q h) hFc (fun r9 u t H1 locs ht hvm hw hB hz1 hk1 hS => ?_)
          obtain ⟨hP1, hK1, hD1⟩ := hB
          rw [ht] at hP1
          obtain ⟨hP, hD⟩ := va_join (wr := [(h, .inr (3, [.ref sk, it_changes, it_lines, it_sha, it_form, it_named, it_linesOfFile, it_nextFile, it_nextLine])), (fr, .inl (cI, 502, .inl frf)), (fdA, .inl (cI, 502, .inl fdf)), (dpA, .inl (cI, 8400, .inl dp)), (sk, .inr (9, [.ref b_y, .ref fr, .ref fdA, sk_firstChange, .ref dpA, .ref hs, .ref bh, sk_leansOn, sk_leantBy, sk_changes, sk_lines, .int (nI P)])), (hs, .inl (cB, 16032, .inl hf)), (bh, .inl (cI, 500, .inl bf)), (b_y, .inl (cB, 290000, .inl f))]) (w1 := [(rr, .inr (7, [.ref mb, rr_digest, rr_size, rr_version, rr_digestVersion])), (mb, .inl (cL, 8, .inr (.inl mw)))]) hP hD [4, 5] [0, 1, 2, 3, 6, 7, 8, 9] rfl rfl (by decide) (by decide) hk1 hFc hP1 hD1
          generalize H1 = H at hP hS ⊢
          have hP : va_P (dC, dI) classes [(h, .inr (3, [.ref sk, it_changes, it_lines, it_sha, it_form, it_named, it_linesOfFile, it_nextFile, it_nextLine])), (fr, .inl (cI, 502, .inl frf)), (fdA, .inl (cI, 502, .inl fdf)), (dpA, .inl (cI, 8400, .inl dp)), (sk, .inr (9, [.ref b_y, .ref fr, .ref fdA, sk_firstChange, .ref dpA, .ref hs, .ref bh, sk_leansOn, sk_leantBy, sk_changes, sk_lines, .int (nI P)])), (hs, .inl (cB, 16032, .inl hf)), (bh, .inl (cI, 500, .inl bf)), (b_y, .inl (cB, 290000, .inl f)), (rr, .inr (7, [.ref mb, rr_digest, rr_size, rr_version, rr_digestVersion])), (mb, .inl (cL, 8, .inr (.inl mw)))] H := hP
          have hD : va_D A [(h, .inr (3, [.ref sk, it_changes, it_lines, it_sha, it_form, it_named, it_linesOfFile, it_nextFile, it_nextLine])), (fr, .inl (cI, 502, .inl frf)), (fdA, .inl (cI, 502, .inl fdf)), (dpA, .inl (cI, 8400, .inl dp)), (sk, .inr (9, [.ref b_y, .ref fr, .ref fdA, sk_firstChange, .ref dpA, .ref hs, .ref bh, sk_leansOn, sk_leantBy, sk_changes, sk_lines, .int (nI P)])), (hs, .inl (cB, 16032, .inl hf)), (bh, .inl (cI, 500, .inl bf)), (b_y, .inl (cB, 290000, .inl f)), (rr, .inr (7, [.ref mb, rr_digest, rr_size, rr_version, rr_digestVersion])), (mb, .inl (cL, 8, .inr (.inl mw)))] := hD
          rcases hw with ⟨rfl, hh⟩ | ⟨rfl, hh⟩
          · have hP : va_P (dC, dI) classes [(h, .inr (3, [.ref sk, it_changes, it_lines, it_sha, it_form, it_named, it_linesOfFile, it_nextFile, it_nextLine])), (fr, .inl (cI, 502, .inl frf)), (fdA, .inl (cI, 502, .inl fdf)), (dpA, .inl (cI, 8400, .inl dp)), (sk, .inr (9, [.ref b_y, .ref fr, .ref fdA, sk_firstChange, .ref dpA, .ref hs, .ref bh, sk_leansOn, sk_leantBy, sk_changes, sk_lines, .int (nI P)])), (hs, .inl (cB, 16032, .inl hf)), (bh, .inl (cI, 500, .inl bf)), (b_y, .inl (cB, 290000, .inl f)), (rr, .inr (7, [.ref mb, rr_digest, rr_size, rr_version, rr_digestVersion])), (mb, .inl (cL, 8, .inr (.inl mw)))] H := hP
            have hD : va_D A [(h, .inr (3, [.ref sk, it_changes, it_lines, it_sha, it_form, it_named, it_linesOfFile, it_nextFile, it_nextLine])), (fr, .inl (cI, 502, .inl frf)), (fdA, .inl (cI, 502, .inl fdf)), (dpA, .inl (cI, 8400, .inl dp)), (sk, .inr (9, [.ref b_y, .ref fr, .ref fdA, sk_firstChange, .ref dpA, .ref hs, .ref bh, sk_leansOn, sk_leantBy, sk_changes, sk_lines, .int (nI P)])), (hs, .inl (cB, 16032, .inl hf)), (bh, .inl (cI, 500, .inl bf)), (b_y, .inl (cB, 290000, .inl f)), (rr, .inr (7, [.ref mb, rr_digest, rr_size, rr_version, rr_digestVersion])), (mb, .inl (cL, 8, .inr (.inl mw)))] := hD
            refine lv_if_eq (tgt := 96) hx hb d_In_findDependencies_82 (by decide) (fun c_82 => absurd c_82 (by decide)) (fun _ => ?_)
            refine lv_iload hx hb d_In_findDependencies_85 (lv_at hl 5 rfl) ?_
            refine lv_iload hx hb d_In_findDependencies_87 (lv_at hl 6 rfl) ?_
            refine lv_iadd hx hb d_In_findDependencies_89 ?_
            refine lv_topi (fun x_8 ex_8 => ?_)
            obtain rfl : x_8 = nI (F + k) := by rw [ex_8]; first | done | (exact nI_add _ _)
            refine lv_sipush (v := 8400) hx hb d_In_findDependencies_90 (by decide) ?_
            refine lv_icmp_lt (tgt := 98) hx hb d_In_findDependencies_93 (by decide) (fun _ => ?_) (fun c_93 => absurd ((nI_ltI (a := F + k) (b := 8400) (by omega) (by omega)).mpr (hroom k n_48)) c_93)
            refine lv_aload_n hx hb d_In_findDependencies_98 rfl (lv_at hl 1 rfl) ?_
            refine va_get (D := (dC, dI)) (ci := 3) (v := .ref sk) (C := R_In) (T := F_In) (N := 9) hx hb hts i_In hown hK hP 0 rfl rfl 0 (by decide) (hts _ gw_284) (fun _ h9 => h9) rfl d_In_findDependencies_99 ?_
            refine va_get (D := (dC, dI)) (ci := 9) (v := .ref dpA) (C := R_St) (T := F_St) (N := 12) hx hb hts i_St hown hK hP 4 rfl rfl 4 (by decide) (hts _ gw_203) (fun _ h9 => h9) rfl d_In_findDependencies_102 ?_
            refine lv_iload hx hb d_In_findDependencies_105 (lv_at hl 5 rfl) ?_
            refine lv_iload hx hb d_In_findDependencies_107 (lv_at hl 6 rfl) ?_
            refine lv_iadd hx hb d_In_findDependencies_109 ?_
            refine lv_topi (fun x_9 ex_9 => ?_)
            obtain rfl : x_9 = nI (F + k) := by rw [ex_9]; first | done | (exact nI_add _ _)
            refine lv_iload hx hb d_In_findDependencies_110 (lv_at hl 0 rfl) ?_
            refine va_iast hx hb hK hP hD hS 3 0 rfl rfl (vp_in_nI (by omega) (by omega)) d_In_findDependencies_112 (fun H locs hP hD hS => ?_)
            rw [show (nI (F + k)).toNatClampNeg = (F + k) from nI_clamp (by omega)] at hP hD
            have hP : va_P (dC, dI) classes [(h, .inr (3, [.ref sk, it_changes, it_lines, it_sha, it_form, it_named, it_linesOfFile, it_nextFile, it_nextLine])), (fr, .inl (cI, 502, .inl frf)), (fdA, .inl (cI, 502, .inl fdf)), (dpA, .inl (cI, 8400, .inl (upd dp (F + k) (nI (Bh ii))))), (sk, .inr (9, [.ref b_y, .ref fr, .ref fdA, sk_firstChange, .ref dpA, .ref hs, .ref bh, sk_leansOn, sk_leantBy, sk_changes, sk_lines, .int (nI P)])), (hs, .inl (cB, 16032, .inl hf)), (bh, .inl (cI, 500, .inl bf)), (b_y, .inl (cB, 290000, .inl f)), (rr, .inr (7, [.ref mb, rr_digest, rr_size, rr_version, rr_digestVersion])), (mb, .inl (cL, 8, .inr (.inl mw)))] H := hP
            have hD : va_D A [(h, .inr (3, [.ref sk, it_changes, it_lines, it_sha, it_form, it_named, it_linesOfFile, it_nextFile, it_nextLine])), (fr, .inl (cI, 502, .inl frf)), (fdA, .inl (cI, 502, .inl fdf)), (dpA, .inl (cI, 8400, .inl (upd dp (F + k) (nI (Bh ii))))), (sk, .inr (9, [.ref b_y, .ref fr, .ref fdA, sk_firstChange, .ref dpA, .ref hs, .ref bh, sk_leansOn, sk_leantBy, sk_changes, sk_lines, .int (nI P)])), (hs, .inl (cB, 16032, .inl hf)), (bh, .inl (cI, 500, .inl bf)), (b_y, .inl (cB, 290000, .inl f)), (rr, .inr (7, [.ref mb, rr_digest, rr_size, rr_version, rr_digestVersion])), (mb, .inl (cL, 8, .inr (.inl mw)))] := hD
            refine lv_iinc (v := nI (k + 1)) (lv' := [(5, .int (nI (k + 1))), (6, .int (nI (Bh ii))), (0, .ref h), (1, .ref rr), (2, .int (nI s0)), (3, .int (nI (tw f s0))), (4, .int (nI F))]) hx hb d_In_findDependencies_113 hl (k := 6) rfl (by exact nI_add _ _) (by decide) rfl (fun ls hl => ?_)
            refine lv_goto (tgt := 45) hx hb d_In_findDependencies_116 (by decide) ?_
            exact ih_45 (k + 1) (upd dp (F + k) (nI (Bh ii))) _ _ _ (by omega) (by omega) (fun j z => if h9 : j = k then h9 ▸ ⟨Bh ii, hisP, hh⟩ else hok j (by omega)) (fun j z => if h9 : j = k then (by subst h9; rw [upd_eq, pQ_eq gU hisP]) else (upd_ne _ (by omega)).trans (hdp j (by omega))) (fun j z => (upd_ne _ (by omega)).trans (hfr j z)) (hP.sub [0, 4, 7, 1, 2, 3, 5, 6, 8, 9] rfl) (hD.sub [0, 4, 7, 1, 2, 3, 5, 6, 8, 9] (by decide) rfl) hS (lv_sub hl [2, 3, 4, 5, 6, 0] rfl)
          · have hP : va_P (dC, dI) classes [(h, .inr (3, [.ref sk, it_changes, it_lines, it_sha, it_form, it_named, it_linesOfFile, it_nextFile, it_nextLine])), (fr, .inl (cI, 502, .inl frf)), (fdA, .inl (cI, 502, .inl fdf)), (dpA, .inl (cI, 8400, .inl dp)), (sk, .inr (9, [.ref b_y, .ref fr, .ref fdA, sk_firstChange, .ref dpA, .ref hs, .ref bh, sk_leansOn, sk_leantBy, sk_changes, sk_lines, .int (nI P)])), (hs, .inl (cB, 16032, .inl hf)), (bh, .inl (cI, 500, .inl bf)), (b_y, .inl (cB, 290000, .inl f)), (rr, .inr (7, [.ref mb, rr_digest, rr_size, rr_version, rr_digestVersion])), (mb, .inl (cL, 8, .inr (.inl mw)))] H := hP
            have hD : va_D A [(h, .inr (3, [.ref sk, it_changes, it_lines, it_sha, it_form, it_named, it_linesOfFile, it_nextFile, it_nextLine])), (fr, .inl (cI, 502, .inl frf)), (fdA, .inl (cI, 502, .inl fdf)), (dpA, .inl (cI, 8400, .inl dp)), (sk, .inr (9, [.ref b_y, .ref fr, .ref fdA, sk_firstChange, .ref dpA, .ref hs, .ref bh, sk_leansOn, sk_leantBy, sk_changes, sk_lines, .int (nI P)])), (hs, .inl (cB, 16032, .inl hf)), (bh, .inl (cI, 500, .inl bf)), (b_y, .inl (cB, 290000, .inl f)), (rr, .inr (7, [.ref mb, rr_digest, rr_size, rr_version, rr_digestVersion])), (mb, .inl (cL, 8, .inr (.inl mw)))] := hD
            have hno : ¬ ∀ j, j < tw f s0 → depOk hf Bh P f mw s0 j := fun z => by
              obtain ⟨q, h1, h2⟩ := z k n_48
              rw [isP.uniq gU h1 hisP] at h2
              exact hh h2
            refine lv_if_eq (tgt := 96) hx hb d_In_findDependencies_82 (by decide) (fun _ => ?_) (fun c_82 => absurd (by decide) c_82)
            refine lv_iconst (v := 0) hx hb d_In_findDependencies_96 (by decide) ?_
            have hP := hP.sub (ws' := [(h, .inr (3, [.ref sk, it_changes, it_lines, it_sha, it_form, it_named, it_linesOfFile, it_nextFile, it_nextLine])), (sk, .inr (9, [.ref b_y, .ref fr, .ref fdA, sk_firstChange, .ref dpA, .ref hs, .ref bh, sk_leansOn, sk_leantBy, sk_changes, sk_lines, .int (nI P)])), (b_y, .inl (cB, 290000, .inl f)), (fr, .inl (cI, 502, .inl frf)), (fdA, .inl (cI, 502, .inl fdf)), (dpA, .inl (cI, 8400, .inl dp)), (hs, .inl (cB, 16032, .inl hf)), (bh, .inl (cI, 500, .inl bf)), (rr, .inr (7, [.ref mb, rr_digest, rr_size, rr_version, rr_digestVersion])), (mb, .inl (cL, 8, .inr (.inl mw)))]) [0, 4, 7, 1, 2, 3, 5, 6, 8, 9] rfl
            have hD := hD.sub (ws' := [(h, .inr (3, [.ref sk, it_changes, it_lines, it_sha, it_form, it_named, it_linesOfFile, it_nextFile, it_nextLine])), (sk, .inr (9, [.ref b_y, .ref fr, .ref fdA, sk_firstChange, .ref dpA, .ref hs, .ref bh, sk_leansOn, sk_leantBy, sk_changes, sk_lines, .int (nI P)])), (b_y, .inl (cB, 290000, .inl f)), (fr, .inl (cI, 502, .inl frf)), (fdA, .inl (cI, 502, .inl fdf)), (dpA, .inl (cI, 8400, .inl dp)), (hs, .inl (cB, 16032, .inl hf)), (bh, .inl (cI, 500, .inl bf)), (rr, .inr (7, [.ref mb, rr_digest, rr_size, rr_version, rr_digestVersion])), (mb, .inl (cL, 8, .inr (.inl mw)))]) [0, 4, 7, 1, 2, 3, 5, 6, 8, 9] (by decide) rfl
            rw [← hQe]
            exact W.zret (v := 0) hx hb hr nz_b0 (fun t ht hW => ⟨⟨_, (dp, fdf), rfl, ⟨Or.inr ⟨rfl, hno⟩, hfr, fun _ _ => rfl⟩, by rw [ht]; exact hP, va_K.moved hW.alike hK, hD⟩, hS.F ht⟩) hS.2.2 d_In_findDependencies_97
  exact loop_45 _ 0 dpf _ _ _ (Nat.lt_succ_self _) (Nat.zero_le _) (fun j z => absurd z (Nat.not_lt_zero _)) (fun j z => absurd z (Nat.not_lt_zero _)) (fun _ _ => rfl) (hP.sub [0, 8, 9, 1, 2, 3, 4, 5, 6, 7] rfl) (hD.sub [0, 8, 9, 1, 2, 3, 4, 5, 6, 7] (by decide) rfl) hS (lv_sub hl [4, 5, 3, 2, 1, 0] rfl)
end
