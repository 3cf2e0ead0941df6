section
/-! 50.stock1.lean.txt -/
theorem gw_88 : (Jvm.Cond.fieldLink "PatchStore$Stock" (66 : Nat) "PatchStore$Changes" "at" "[I") ∈ xg_1 := xg_s1 88 rfl rfl
theorem gw_890 : (Jvm.Cond.instanceMethod ({ cls := "PatchStore$Stock", name := "kind", desc := "(I)I" } : Jvm.MethodName)) ∈ xg_1 := xg_s4 170 rfl rfl
theorem gw_891 : (Jvm.Cond.selects "PatchStore$Stock" ({ cls := "PatchStore$Stock", name := "kind", desc := "(I)I" } : Jvm.MethodName) ({ cls := "PatchStore$Stock", name := "kind", desc := "(I)I" } : Jvm.MethodName)) ∈ xg_1 := xg_s4 171 rfl rfl
theorem gw_892 : (Jvm.Cond.code ({ cls := "PatchStore$Stock", name := "kind", desc := "(I)I" } : Jvm.MethodName) prog_10_method_4_code (2 : Nat) (Option.some Jvm.ClassFile.FieldType.int)) ∈ xg_1 := xg_s4 172 rfl rfl
theorem gw_897 : (Jvm.Cond.methodLink "PatchStore$Stock" (69 : Nat) ({ cls := "PatchStore$Stock", name := "kind", desc := "(I)I" } : Jvm.MethodName)) ∈ xg_1 := xg_s4 177 rfl rfl
theorem gw_898 : (Jvm.Cond.methodLink "PatchStore$Stock" (73 : Nat) ({ cls := "PatchStore$Stock", name := "nameAt", desc := "(I)I" } : Jvm.MethodName)) ∈ xg_1 := xg_s4 178 rfl rfl
theorem gw_899 : (Jvm.Cond.instanceMethod ({ cls := "PatchStore$Stock", name := "nameAt", desc := "(I)I" } : Jvm.MethodName)) ∈ xg_1 := xg_s4 179 rfl rfl
theorem gw_900 : (Jvm.Cond.selects "PatchStore$Stock" ({ cls := "PatchStore$Stock", name := "nameAt", desc := "(I)I" } : Jvm.MethodName) ({ cls := "PatchStore$Stock", name := "nameAt", desc := "(I)I" } : Jvm.MethodName)) ∈ xg_1 := xg_s4 180 rfl rfl
theorem gw_901 : (Jvm.Cond.code ({ cls := "PatchStore$Stock", name := "nameAt", desc := "(I)I" } : Jvm.MethodName) prog_10_method_5_code (3 : Nat) (Option.some Jvm.ClassFile.FieldType.int)) ∈ xg_1 := xg_s4 181 rfl rfl
theorem gw_911 : (Jvm.Cond.instanceMethod ({ cls := "PatchStore$Stock", name := "downAt", desc := "(I)I" } : Jvm.MethodName)) ∈ xg_1 := xg_s4 191 rfl rfl
theorem gw_912 : (Jvm.Cond.selects "PatchStore$Stock" ({ cls := "PatchStore$Stock", name := "downAt", desc := "(I)I" } : Jvm.MethodName) ({ cls := "PatchStore$Stock", name := "downAt", desc := "(I)I" } : Jvm.MethodName)) ∈ xg_1 := xg_s4 192 rfl rfl
theorem gw_913 : (Jvm.Cond.code ({ cls := "PatchStore$Stock", name := "downAt", desc := "(I)I" } : Jvm.MethodName) prog_10_method_7_code (3 : Nat) (Option.some Jvm.ClassFile.FieldType.int)) ∈ xg_1 := xg_s4 193 rfl rfl
theorem gw_922 : (Jvm.Cond.methodLink "PatchStore$Stock" (76 : Nat) ({ cls := "PatchStore$Stock", name := "downAt", desc := "(I)I" } : Jvm.MethodName)) ∈ xg_1 := xg_s4 202 rfl rfl
def y_St_two : MethodName := ⟨"PatchStore$Stock", "two", "(I)I"⟩
abbrev c_St_two : Cond := (Jvm.Cond.code ({ cls := "PatchStore$Stock", name := "two", desc := "(I)I" } : Jvm.MethodName) prog_10_method_3_code (2 : Nat) (Option.some Jvm.ClassFile.FieldType.int))
abbrev ws_St_two : List Cond := c_St_two :: xg_1
theorem d_St_two_0 : decode prog_10_method_3_code 0 = .ok (.aload_n 0, 1) := by decide +kernel
theorem d_St_two_1 : decode prog_10_method_3_code 1 = .ok (.getfield 10, 3) := by decide +kernel
theorem d_St_two_4 : decode prog_10_method_3_code 4 = .ok (.iload_n 1, 1) := by decide +kernel
theorem d_St_two_5 : decode prog_10_method_3_code 5 = .ok (.baload, 1) := by decide +kernel
theorem d_St_two_6 : decode prog_10_method_3_code 6 = .ok (.sipush 255, 3) := by decide +kernel
theorem d_St_two_9 : decode prog_10_method_3_code 9 = .ok (.iand, 1) := by decide +kernel
theorem d_St_two_10 : decode prog_10_method_3_code 10 = .ok (.bipush 8, 2) := by decide +kernel
theorem d_St_two_12 : decode prog_10_method_3_code 12 = .ok (.ishl, 1) := by decide +kernel
theorem d_St_two_13 : decode prog_10_method_3_code 13 = .ok (.aload_n 0, 1) := by decide +kernel
theorem d_St_two_14 : decode prog_10_method_3_code 14 = .ok (.getfield 10, 3) := by decide +kernel
theorem d_St_two_17 : decode prog_10_method_3_code 17 = .ok (.iload_n 1, 1) := by decide +kernel
theorem d_St_two_18 : decode prog_10_method_3_code 18 = .ok (.iconst 1, 1) := by decide +kernel
theorem d_St_two_19 : decode prog_10_method_3_code 19 = .ok (.iadd, 1) := by decide +kernel
theorem d_St_two_20 : decode prog_10_method_3_code 20 = .ok (.baload, 1) := by decide +kernel
theorem d_St_two_21 : decode prog_10_method_3_code 21 = .ok (.sipush 255, 3) := by decide +kernel
theorem d_St_two_24 : decode prog_10_method_3_code 24 = .ok (.iand, 1) := by decide +kernel
theorem d_St_two_25 : decode prog_10_method_3_code 25 = .ok (.ior, 1) := by decide +kernel
theorem d_St_two_26 : decode prog_10_method_3_code 26 = .ok (.ireturn, 1) := by decide +kernel
def y_St_kind : MethodName := ⟨"PatchStore$Stock", "kind", "(I)I"⟩
abbrev c_St_kind : Cond := (Jvm.Cond.code ({ cls := "PatchStore$Stock", name := "kind", desc := "(I)I" } : Jvm.MethodName) prog_10_method_4_code (2 : Nat) (Option.some Jvm.ClassFile.FieldType.int))
abbrev ws_St_kind : List Cond := c_St_kind :: xg_1
theorem d_St_kind_0 : decode prog_10_method_4_code 0 = .ok (.aload_n 0, 1) := by decide +kernel
theorem d_St_kind_1 : decode prog_10_method_4_code 1 = .ok (.getfield 10, 3) := by decide +kernel
theorem d_St_kind_4 : decode prog_10_method_4_code 4 = .ok (.aload_n 0, 1) := by decide +kernel
theorem d_St_kind_5 : decode prog_10_method_4_code 5 = .ok (.getfield 45, 3) := by decide +kernel
theorem d_St_kind_8 : decode prog_10_method_4_code 8 = .ok (.getfield 66, 3) := by decide +kernel
theorem d_St_kind_11 : decode prog_10_method_4_code 11 = .ok (.iload_n 1, 1) := by decide +kernel
theorem d_St_kind_12 : decode prog_10_method_4_code 12 = .ok (.iaload, 1) := by decide +kernel
theorem d_St_kind_13 : decode prog_10_method_4_code 13 = .ok (.baload, 1) := by decide +kernel
theorem d_St_kind_14 : decode prog_10_method_4_code 14 = .ok (.ireturn, 1) := by decide +kernel
def y_St_nameAt : MethodName := ⟨"PatchStore$Stock", "nameAt", "(I)I"⟩
abbrev c_St_nameAt : Cond := (Jvm.Cond.code ({ cls := "PatchStore$Stock", name := "nameAt", desc := "(I)I" } : Jvm.MethodName) prog_10_method_5_code (3 : Nat) (Option.some Jvm.ClassFile.FieldType.int))
abbrev ws_St_nameAt : List Cond := c_St_nameAt :: xg_1
theorem d_St_nameAt_0 : decode prog_10_method_5_code 0 = .ok (.aload_n 0, 1) := by decide +kernel
theorem d_St_nameAt_1 : decode prog_10_method_5_code 1 = .ok (.getfield 45, 3) := by decide +kernel
theorem d_St_nameAt_4 : decode prog_10_method_5_code 4 = .ok (.getfield 66, 3) := by decide +kernel
theorem d_St_nameAt_7 : decode prog_10_method_5_code 7 = .ok (.iload_n 1, 1) := by decide +kernel
theorem d_St_nameAt_8 : decode prog_10_method_5_code 8 = .ok (.iaload, 1) := by decide +kernel
theorem d_St_nameAt_9 : decode prog_10_method_5_code 9 = .ok (.istore_n 2, 1) := by decide +kernel
theorem d_St_nameAt_10 : decode prog_10_method_5_code 10 = .ok (.aload_n 0, 1) := by decide +kernel
theorem d_St_nameAt_11 : decode prog_10_method_5_code 11 = .ok (.getfield 10, 3) := by decide +kernel
theorem d_St_nameAt_14 : decode prog_10_method_5_code 14 = .ok (.iload_n 2, 1) := by decide +kernel
theorem d_St_nameAt_15 : decode prog_10_method_5_code 15 = .ok (.baload, 1) := by decide +kernel
theorem d_St_nameAt_16 : decode prog_10_method_5_code 16 = .ok (.ifCond .ne 9, 3) := by decide +kernel
theorem d_St_nameAt_19 : decode prog_10_method_5_code 19 = .ok (.iload_n 2, 1) := by decide +kernel
theorem d_St_nameAt_20 : decode prog_10_method_5_code 20 = .ok (.iconst 5, 1) := by decide +kernel
theorem d_St_nameAt_21 : decode prog_10_method_5_code 21 = .ok (.iadd, 1) := by decide +kernel
theorem d_St_nameAt_22 : decode prog_10_method_5_code 22 = .ok (.goto 22, 3) := by decide +kernel
theorem d_St_nameAt_25 : decode prog_10_method_5_code 25 = .ok (.iload_n 2, 1) := by decide +kernel
theorem d_St_nameAt_26 : decode prog_10_method_5_code 26 = .ok (.bipush 6, 2) := by decide +kernel
theorem d_St_nameAt_28 : decode prog_10_method_5_code 28 = .ok (.iadd, 1) := by decide +kernel
theorem d_St_nameAt_29 : decode prog_10_method_5_code 29 = .ok (.iconst 4, 1) := by decide +kernel
theorem d_St_nameAt_30 : decode prog_10_method_5_code 30 = .ok (.aload_n 0, 1) := by decide +kernel
theorem d_St_nameAt_31 : decode prog_10_method_5_code 31 = .ok (.getfield 10, 3) := by decide +kernel
theorem d_St_nameAt_34 : decode prog_10_method_5_code 34 = .ok (.iload_n 2, 1) := by decide +kernel
theorem d_St_nameAt_35 : decode prog_10_method_5_code 35 = .ok (.iconst 5, 1) := by decide +kernel
theorem d_St_nameAt_36 : decode prog_10_method_5_code 36 = .ok (.iadd, 1) := by decide +kernel
theorem d_St_nameAt_37 : decode prog_10_method_5_code 37 = .ok (.baload, 1) := by decide +kernel
theorem d_St_nameAt_38 : decode prog_10_method_5_code 38 = .ok (.sipush 255, 3) := by decide +kernel
theorem d_St_nameAt_41 : decode prog_10_method_5_code 41 = .ok (.iand, 1) := by decide +kernel
theorem d_St_nameAt_42 : decode prog_10_method_5_code 42 = .ok (.imul, 1) := by decide +kernel
theorem d_St_nameAt_43 : decode prog_10_method_5_code 43 = .ok (.iadd, 1) := by decide +kernel
theorem d_St_nameAt_44 : decode prog_10_method_5_code 44 = .ok (.ireturn, 1) := by decide +kernel
def y_St_isNaming : MethodName := ⟨"PatchStore$Stock", "isNaming", "(I)Z"⟩
abbrev c_St_isNaming : Cond := (Jvm.Cond.code ({ cls := "PatchStore$Stock", name := "isNaming", desc := "(I)Z" } : Jvm.MethodName) prog_10_method_6_code (3 : Nat) (Option.some Jvm.ClassFile.FieldType.boolean))
abbrev ws_St_isNaming : List Cond := c_St_isNaming :: xg_1
theorem d_St_isNaming_0 : decode prog_10_method_6_code 0 = .ok (.aload_n 0, 1) := by decide +kernel
theorem d_St_isNaming_1 : decode prog_10_method_6_code 1 = .ok (.iload_n 1, 1) := by decide +kernel
theorem d_St_isNaming_2 : decode prog_10_method_6_code 2 = .ok (.invokevirtual 69, 3) := by decide +kernel
theorem d_St_isNaming_5 : decode prog_10_method_6_code 5 = .ok (.istore_n 2, 1) := by decide +kernel
theorem d_St_isNaming_6 : decode prog_10_method_6_code 6 = .ok (.iload_n 2, 1) := by decide +kernel
theorem d_St_isNaming_7 : decode prog_10_method_6_code 7 = .ok (.ifCond .eq 21, 3) := by decide +kernel
theorem d_St_isNaming_10 : decode prog_10_method_6_code 10 = .ok (.iload_n 2, 1) := by decide +kernel
theorem d_St_isNaming_11 : decode prog_10_method_6_code 11 = .ok (.iconst 1, 1) := by decide +kernel
theorem d_St_isNaming_12 : decode prog_10_method_6_code 12 = .ok (.if_icmp .ne 20, 3) := by decide +kernel
theorem d_St_isNaming_15 : decode prog_10_method_6_code 15 = .ok (.aload_n 0, 1) := by decide +kernel
theorem d_St_isNaming_16 : decode prog_10_method_6_code 16 = .ok (.getfield 10, 3) := by decide +kernel
theorem d_St_isNaming_19 : decode prog_10_method_6_code 19 = .ok (.aload_n 0, 1) := by decide +kernel
theorem d_St_isNaming_20 : decode prog_10_method_6_code 20 = .ok (.iload_n 1, 1) := by decide +kernel
theorem d_St_isNaming_21 : decode prog_10_method_6_code 21 = .ok (.invokevirtual 73, 3) := by decide +kernel
theorem d_St_isNaming_24 : decode prog_10_method_6_code 24 = .ok (.baload, 1) := by decide +kernel
theorem d_St_isNaming_25 : decode prog_10_method_6_code 25 = .ok (.ifCond .eq 7, 3) := by decide +kernel
theorem d_St_isNaming_28 : decode prog_10_method_6_code 28 = .ok (.iconst 1, 1) := by decide +kernel
theorem d_St_isNaming_29 : decode prog_10_method_6_code 29 = .ok (.goto 4, 3) := by decide +kernel
theorem d_St_isNaming_32 : decode prog_10_method_6_code 32 = .ok (.iconst 0, 1) := by decide +kernel
theorem d_St_isNaming_33 : decode prog_10_method_6_code 33 = .ok (.ireturn, 1) := by decide +kernel
def y_St_downAt : MethodName := ⟨"PatchStore$Stock", "downAt", "(I)I"⟩
abbrev c_St_downAt : Cond := (Jvm.Cond.code ({ cls := "PatchStore$Stock", name := "downAt", desc := "(I)I" } : Jvm.MethodName) prog_10_method_7_code (3 : Nat) (Option.some Jvm.ClassFile.FieldType.int))
abbrev ws_St_downAt : List Cond := c_St_downAt :: xg_1
theorem d_St_downAt_0 : decode prog_10_method_7_code 0 = .ok (.aload_n 0, 1) := by decide +kernel
theorem d_St_downAt_1 : decode prog_10_method_7_code 1 = .ok (.getfield 45, 3) := by decide +kernel
theorem d_St_downAt_4 : decode prog_10_method_7_code 4 = .ok (.getfield 66, 3) := by decide +kernel
theorem d_St_downAt_7 : decode prog_10_method_7_code 7 = .ok (.iload_n 1, 1) := by decide +kernel
theorem d_St_downAt_8 : decode prog_10_method_7_code 8 = .ok (.iaload, 1) := by decide +kernel
theorem d_St_downAt_9 : decode prog_10_method_7_code 9 = .ok (.iconst 5, 1) := by decide +kernel
theorem d_St_downAt_10 : decode prog_10_method_7_code 10 = .ok (.iadd, 1) := by decide +kernel
theorem d_St_downAt_11 : decode prog_10_method_7_code 11 = .ok (.istore_n 2, 1) := by decide +kernel
theorem d_St_downAt_12 : decode prog_10_method_7_code 12 = .ok (.iload_n 2, 1) := by decide +kernel
theorem d_St_downAt_13 : decode prog_10_method_7_code 13 = .ok (.aload_n 0, 1) := by decide +kernel
theorem d_St_downAt_14 : decode prog_10_method_7_code 14 = .ok (.getfield 10, 3) := by decide +kernel
theorem d_St_downAt_17 : decode prog_10_method_7_code 17 = .ok (.iload_n 2, 1) := by decide +kernel
theorem d_St_downAt_18 : decode prog_10_method_7_code 18 = .ok (.baload, 1) := by decide +kernel
theorem d_St_downAt_19 : decode prog_10_method_7_code 19 = .ok (.ifCond .ne 7, 3) := by decide +kernel
theorem d_St_downAt_22 : decode prog_10_method_7_code 22 = .ok (.iconst 1, 1) := by decide +kernel
theorem d_St_downAt_23 : decode prog_10_method_7_code 23 = .ok (.goto 5, 3) := by decide +kernel
theorem d_St_downAt_26 : decode prog_10_method_7_code 26 = .ok (.bipush 7, 2) := by decide +kernel
theorem d_St_downAt_28 : decode prog_10_method_7_code 28 = .ok (.iadd, 1) := by decide +kernel
theorem d_St_downAt_29 : decode prog_10_method_7_code 29 = .ok (.ireturn, 1) := by decide +kernel
def y_St_linesAt : MethodName := ⟨"PatchStore$Stock", "linesAt", "(I)I"⟩
abbrev c_St_linesAt : Cond := (Jvm.Cond.code ({ cls := "PatchStore$Stock", name := "linesAt", desc := "(I)I" } : Jvm.MethodName) prog_10_method_8_code (3 : Nat) (Option.some Jvm.ClassFile.FieldType.int))
abbrev ws_St_linesAt : List Cond := c_St_linesAt :: xg_1
theorem d_St_linesAt_0 : decode prog_10_method_8_code 0 = .ok (.aload_n 0, 1) := by decide +kernel
theorem d_St_linesAt_1 : decode prog_10_method_8_code 1 = .ok (.iload_n 1, 1) := by decide +kernel
theorem d_St_linesAt_2 : decode prog_10_method_8_code 2 = .ok (.invokevirtual 76, 3) := by decide +kernel
theorem d_St_linesAt_5 : decode prog_10_method_8_code 5 = .ok (.istore_n 2, 1) := by decide +kernel
theorem d_St_linesAt_6 : decode prog_10_method_8_code 6 = .ok (.iload_n 2, 1) := by decide +kernel
theorem d_St_linesAt_7 : decode prog_10_method_8_code 7 = .ok (.aload_n 0, 1) := by decide +kernel
theorem d_St_linesAt_8 : decode prog_10_method_8_code 8 = .ok (.getfield 10, 3) := by decide +kernel
theorem d_St_linesAt_11 : decode prog_10_method_8_code 11 = .ok (.iload_n 2, 1) := by decide +kernel
theorem d_St_linesAt_12 : decode prog_10_method_8_code 12 = .ok (.baload, 1) := by decide +kernel
theorem d_St_linesAt_13 : decode prog_10_method_8_code 13 = .ok (.ifCond .ne 7, 3) := by decide +kernel
theorem d_St_linesAt_16 : decode prog_10_method_8_code 16 = .ok (.iconst 1, 1) := by decide +kernel
theorem d_St_linesAt_17 : decode prog_10_method_8_code 17 = .ok (.goto 5, 3) := by decide +kernel
theorem d_St_linesAt_20 : decode prog_10_method_8_code 20 = .ok (.bipush 7, 2) := by decide +kernel
theorem d_St_linesAt_22 : decode prog_10_method_8_code 22 = .ok (.iadd, 1) := by decide +kernel
theorem d_St_linesAt_23 : decode prog_10_method_8_code 23 = .ok (.ireturn, 1) := by decide +kernel
/-- a byte as a number -/
def b8 (x : Int32) : Nat := x.toBitVec.toNat % 256
theorem b8_lt (x : Int32) : b8 x < 256 := Nat.mod_lt _ (by decide)
theorem nI_bv {n : Nat} (h : n < 2 ^ 32) : (nI n).toBitVec.toNat = n := by
  simp [nI, Int32.toBitVec_ofNat']
  omega
theorem b8_eq (x : Int32) : x &&& 255 = nI (b8 x) := by
  apply Int32.toBitVec_inj.mp
  apply BitVec.eq_of_toNat_eq
  rw [Int32.toBitVec_and, BitVec.toNat_and, nI_bv (by have := b8_lt x; omega)]
  show x.toBitVec.toNat &&& 255 = _
  rw [show (255 : Nat) = 2 ^ 8 - 1 from rfl, Nat.and_two_pow_sub_one_eq_mod]
  rfl
theorem b8_two {a b : Nat} (ha : a < 256) (hb : b < 256) : (nI a <<< (8 &&& 31)) ||| nI b = nI (256 * a + b) := by
  apply Int32.toBitVec_inj.mp
  apply BitVec.eq_of_toNat_eq
  rw [nI_bv (by omega), Int32.toBitVec_or, BitVec.toNat_or, nI_bv (by omega)]
  have h1 : (nI a <<< (8 &&& 31 : Int32)).toBitVec.toNat = a <<< 8 := by
    rw [Int32.toBitVec_shiftLeft]
    rw [show (8 &&& 31 : Int32).toBitVec.smod 32 = 8#32 from by decide]
    rw [BitVec.shiftLeft_eq', BitVec.toNat_shiftLeft, nI_bv (by omega)]
    show a <<< 8 % 2 ^ 32 = a <<< 8
    rw [Nat.shiftLeft_eq]; omega
  rw [h1, ← Nat.shiftLeft_add_eq_or_of_lt (by omega), Nat.shiftLeft_eq]; omega
/-- two bytes as a number -/
def tw (f : Nat → Int32) (k : Nat) : Nat := 256 * b8 (f k) + b8 (f (k + 1))
theorem tw_lt (f : Nat → Int32) (k : Nat) : tw f k < 65536 := by
  have h1 := b8_lt (f k)
  have h2 := b8_lt (f (k + 1))
  unfold tw; omega
theorem nI_mul (a b : Nat) : nI a * nI b = nI (a * b) := (Int32.ofNat_mul a b).symm

/-- where the length of a name stands, in a change at a -/
def nmAt (f : Nat → Int32) (a : Nat) : Nat := if f a = 0 then a + 5 else a + 6 + 4 * b8 (f (a + 5))
/-- whether the change at a gives a name -/
def isNm (f : Nat → Int32) (a : Nat) : Prop := f a = 0 ∨ (f a = 1 ∧ ¬ f (nmAt f a) = 0)
/-- behind an up or down -/
def plEnd (f : Nat → Int32) (a : Nat) : Nat := if f a = 0 then a + 1 else a + 7
theorem plEnd_z {f : Nat → Int32} {a : Nat} (h : f a = 0) : plEnd f a = a + 1 := if_pos h
theorem plEnd_n {f : Nat → Int32} {a : Nat} (h : ¬ f a = 0) : plEnd f a = a + 7 := if_neg h
set_option maxHeartbeats 4000000 in
set_option maxRecDepth 100000 in
/-- two bytes of the stock -/
theorem m_St_two (l : Launch) (dC : Nat → ClassId) (dI : Nat → Nat → Nat) (cI cB cL cZ cR : ClassId) (h b_y : Nat) (sk_from sk_firstDependency sk_firstChange sk_dependencies sk_hashes sk_byHash sk_leansOn sk_leantBy sk_changes sk_lines sk_patches : Value) (f : Nat → Int32) (k : Nat) (sz : Nat) (hk : k + 1 < 290000) : Met l y_St_two ws_St_two ({ frames := 0, cells := 0, slots := 0, locals := 0 }) (xw_Pc dC dI [(cI, .int), (cB, .byte), (cL, .long), (cZ, .boolean), (cR, .object "PatchStore$Repository")] [.ref h, .int (nI k)] [(h, .inr (9, [.ref b_y, sk_from, sk_firstDependency, sk_firstChange, sk_dependencies, sk_hashes, sk_byHash, sk_leansOn, sk_leantBy, sk_changes, sk_lines, sk_patches])), (b_y, .inl (cB, 290000, .inl f))] sz) (va_Qi (fun (r : Int32) (_ : Unit) => r = nI (tw f k)) (fun _ t => xw_B dC dI [(cI, .int), (cB, .byte), (cL, .long), (cZ, .boolean), (cR, .object "PatchStore$Repository")] (va_A [(h, .inr (9, [.ref b_y, sk_from, sk_firstDependency, sk_firstChange, sk_dependencies, sk_hashes, sk_byHash, sk_leansOn, sk_leantBy, sk_changes, sk_lines, sk_patches])), (b_y, .inl (cB, 290000, .inl f))] sz) [(h, .inr (9, [.ref b_y, sk_from, sk_firstDependency, sk_firstChange, sk_dependencies, sk_hashes, sk_byHash, sk_leansOn, sk_leantBy, sk_changes, sk_lines, sk_patches])), (b_y, .inl (cB, 290000, .inl f))] t) (va_A [(h, .inr (9, [.ref b_y, sk_from, sk_firstDependency, sk_firstChange, sk_dependencies, sk_hashes, sk_byHash, sk_leansOn, sk_leantBy, sk_changes, sk_lines, sk_patches])), (b_y, .inl (cB, 290000, .inl f))] sz)) 0 0 (va_A [(h, .inr (9, [.ref b_y, sk_from, sk_firstDependency, sk_firstChange, sk_dependencies, sk_hashes, sk_byHash, sk_leansOn, sk_leantBy, sk_changes, sk_lines, sk_patches])), (b_y, .inl (cB, 290000, .inl f))] sz) := by
  refine Met.ofW (cc := prog_10_method_3_code) (maxL := 2) (ret := (Option.some Jvm.ClassFile.FieldType.int)) (by decide) rfl ?_
  intro p e s m args below meth c s₁ B hml hv
  obtain ⟨rfl, hsz, hP, hK, hD0⟩ := hv
  have hx := B.exec
  have hb := B.bytes
  have hr := B.returns
  have hts0 := atoms_spec (ws := ws_St_two) B.pre
  have hts : ∀ w ∈ xg_1, w.before _ s = true := fun w h => hts0 w (List.mem_cons_of_mem _ h)
  have hown : s.vm.findClass "PatchStore$Stock" = some m.cls := findClass_of_methodNamed B.named
  have hlocks := B.notSynchronized
  subst hsz
  have hD := hD0.self (sz := s.heap.size)
  generalize hAe : va_A [(h, .inr (9, [.ref b_y, sk_from, sk_firstDependency, sk_firstChange, sk_dependencies, sk_hashes, sk_byHash, sk_leansOn, sk_leantBy, sk_changes, sk_lines, sk_patches])), (b_y, .inl (cB, 290000, .inl f))] s.heap.size = A at hD ⊢
  have hA : ∀ q : Nat, s.heap.size ≤ q → A q := fun q h => by rw [← hAe]; exact Or.inr h
  have hS : va_S A s.heap s.heap [] := va_S.rf
  have hl := lv_entry ([.ref h, .int (nI k)]) (n := 2) (Nat.le_of_ble_eq_true rfl)
  rw [lg_entry_eq]
  generalize (lg_sl ([.ref h, .int (nI k)]) ++ List.replicate (2 - (lg_sl ([.ref h, .int (nI k)])).length) Slot.unset).toArray = ls at hl ⊢
  have hl : lv_has ls 2 [(0, .ref h), (1, .int (nI k))] := hl
  refine lv_aload_n hx hb d_St_two_0 rfl (lv_at hl 0 rfl) ?_
  refine va_get (D := (dC, dI)) (ci := 9) (v := .ref b_y) (C := R_St) (T := F_St) (N := 12) hx hb hts i_St hown hK hP 0 rfl rfl 0 (by decide) (hts _ gw_182) (fun _ h9 => h9) rfl d_St_two_1 ?_
  refine lv_iload_n hx hb d_St_two_4 rfl (lv_at hl 1 rfl) ?_
  refine va_bald hx hb hK hP 1 1 rfl rfl (vp_in_nI (by omega) (by omega)) d_St_two_5 ?_
  rw [show (nI k).toNatClampNeg = k from nI_clamp (by omega)]
  refine lv_sipush (v := 255) hx hb d_St_two_6 (by decide) ?_
  refine lv_iand hx hb d_St_two_9 ?_
  refine lv_topi (fun x_1 ex_1 => ?_)
  obtain rfl : x_1 = nI (b8 (f k)) := by rw [ex_1]; first | done | (exact b8_eq _)
  refine lv_bipush (v := 8) hx hb d_St_two_10 (by decide) ?_
  refine lv_ishl hx hb d_St_two_12 ?_
  refine lv_aload_n hx hb d_St_two_13 rfl (lv_at hl 0 rfl) ?_
  refine va_get (D := (dC, dI)) (ci := 9) (v := .ref b_y) (C := R_St) (T := F_St) (N := 12) hx hb hts i_St hown hK hP 0 rfl rfl 0 (by decide) (hts _ gw_182) (fun _ h9 => h9) rfl d_St_two_14 ?_
  refine lv_iload_n hx hb d_St_two_17 rfl (lv_at hl 1 rfl) ?_
  refine lv_iconst (v := 1) hx hb d_St_two_18 (by decide) ?_
  refine lv_iadd hx hb d_St_two_19 ?_
  refine lv_topi (fun x_2 ex_2 => ?_)
  obtain rfl : x_2 = nI (k + 1) := by rw [ex_2]; first | done | (exact nI_1 k)
  refine va_bald hx hb hK hP 1 1 rfl rfl (vp_in_nI (by omega) (by omega)) d_St_two_20 ?_
  rw [show (nI (k + 1)).toNatClampNeg = (k + 1) from nI_clamp (by omega)]
  refine lv_sipush (v := 255) hx hb d_St_two_21 (by decide) ?_
  refine lv_iand hx hb d_St_two_24 ?_
  refine lv_topi (fun x_3 ex_3 => ?_)
  obtain rfl : x_3 = nI (b8 (f (k + 1))) := by rw [ex_3]; first | done | (exact b8_eq _)
  refine lv_ior hx hb d_St_two_25 ?_
  refine lv_topi (fun x_4 ex_4 => ?_)
  obtain rfl : x_4 = nI (tw f k) := by rw [ex_4]; first | done | (exact b8_two (b8_lt _) (b8_lt _))
  exact W.iret (v := nI (tw f k)) hx hb hr (fun t ht hW => ⟨⟨_, (), rfl, rfl, by rw [ht]; exact hP, va_K.moved hW.alike hK, hD⟩, hS.F ht⟩) hS.2.2 d_St_two_26
set_option maxHeartbeats 4000000 in
set_option maxRecDepth 100000 in
/-- the kind of a change -/
theorem m_St_kind (l : Launch) (dC : Nat → ClassId) (dI : Nat → Nat → Nat) (cI cB cL cZ cR : ClassId) (h b_y ch cat : Nat) (sk_from sk_firstDependency sk_firstChange sk_dependencies sk_hashes sk_byHash sk_leansOn sk_leantBy sk_lines sk_patches ch_patch ch_file ch_firstLine ch_adds ch_files : Value) (f ca : Nat → Int32) (k a : Nat) (sz : Nat) (hk : k < 38000) (hca : ca k = nI a) (ha : a < 290000) : Met l y_St_kind ws_St_kind ({ frames := 0, cells := 0, slots := 0, locals := 0 }) (xw_Pc dC dI [(cI, .int), (cB, .byte), (cL, .long), (cZ, .boolean), (cR, .object "PatchStore$Repository")] [.ref h, .int (nI k)] [(h, .inr (9, [.ref b_y, sk_from, sk_firstDependency, sk_firstChange, sk_dependencies, sk_hashes, sk_byHash, sk_leansOn, sk_leantBy, .ref ch, sk_lines, sk_patches])), (b_y, .inl (cB, 290000, .inl f)), (ch, .inr (1, [.ref cat, ch_patch, ch_file, ch_firstLine, ch_adds, ch_files])), (cat, .inl (cI, 38000, .inl ca))] sz) (va_Qi (fun (r : Int32) (_ : Unit) => r = f a) (fun _ t => xw_B dC dI [(cI, .int), (cB, .byte), (cL, .long), (cZ, .boolean), (cR, .object "PatchStore$Repository")] (va_A [(h, .inr (9, [.ref b_y, sk_from, sk_firstDependency, sk_firstChange, sk_dependencies, sk_hashes, sk_byHash, sk_leansOn, sk_leantBy, .ref ch, sk_lines, sk_patches])), (b_y, .inl (cB, 290000, .inl f)), (ch, .inr (1, [.ref cat, ch_patch, ch_file, ch_firstLine, ch_adds, ch_files])), (cat, .inl (cI, 38000, .inl ca))] sz) [(h, .inr (9, [.ref b_y, sk_from, sk_firstDependency, sk_firstChange, sk_dependencies, sk_hashes, sk_byHash, sk_leansOn, sk_leantBy, .ref ch, sk_lines, sk_patches])), (b_y, .inl (cB, 290000, .inl f)), (ch, .inr (1, [.ref cat, ch_patch, ch_file, ch_firstLine, ch_adds, ch_files])), (cat, .inl (cI, 38000, .inl ca))] t) (va_A [(h, .inr (9, [.ref b_y, sk_from, sk_firstDependency, sk_firstChange, sk_dependencies, sk_hashes, sk_byHash, sk_leansOn, sk_leantBy, .ref ch, sk_lines, sk_patches])), (b_y, .inl (cB, 290000, .inl f)), (ch, .inr (1, [.ref cat, ch_patch, ch_file, ch_firstLine, ch_adds, ch_files])), (cat, .inl (cI, 38000, .inl ca))] sz)) 0 0 (va_A [(h, .inr (9, [.ref b_y, sk_from, sk_firstDependency, sk_firstChange, sk_dependencies, sk_hashes, sk_byHash, sk_leansOn, sk_leantBy, .ref ch, sk_lines, sk_patches])), (b_y, .inl (cB, 290000, .inl f)), (ch, .inr (1, [.ref cat, ch_patch, ch_file, ch_firstLine, ch_adds, ch_files])), (cat, .inl (cI, 38000, .inl ca))] sz) := by
  refine Met.ofW (cc := prog_10_method_4_code) (maxL := 2) (ret := (Option.some Jvm.ClassFile.FieldType.int)) (by decide) rfl ?_
  intro p e s m args below meth c s₁ B hml hv
  obtain ⟨rfl, hsz, hP, hK, hD0⟩ := hv
  have hx := B.exec
  have hb := B.bytes
  have hr := B.returns
  have hts0 := atoms_spec (ws := ws_St_kind) B.pre
  have hts : ∀ w ∈ xg_1, w.before _ s = true := fun w h => hts0 w (List.mem_cons_of_mem _ h)
  have hown : s.vm.findClass "PatchStore$Stock" = some m.cls := findClass_of_methodNamed B.named
  have hlocks := B.notSynchronized
  subst hsz
  have hD := hD0.self (sz := s.heap.size)
  generalize hAe : va_A [(h, .inr (9, [.ref b_y, sk_from, sk_firstDependency, sk_firstChange, sk_dependencies, sk_hashes, sk_byHash, sk_leansOn, sk_leantBy, .ref ch, sk_lines, sk_patches])), (b_y, .inl (cB, 290000, .inl f)), (ch, .inr (1, [.ref cat, ch_patch, ch_file, ch_firstLine, ch_adds, ch_files])), (cat, .inl (cI, 38000, .inl ca))] s.heap.size = A at hD ⊢
  have hA : ∀ q : Nat, s.heap.size ≤ q → A q := fun q h => by rw [← hAe]; exact Or.inr h
  have hS : va_S A s.heap s.heap [] := va_S.rf
  have hl := lv_entry ([.ref h, .int (nI k)]) (n := 2) (Nat.le_of_ble_eq_true rfl)
  rw [lg_entry_eq]
  generalize (lg_sl ([.ref h, .int (nI k)]) ++ List.replicate (2 - (lg_sl ([.ref h, .int (nI k)])).length) Slot.unset).toArray = ls at hl ⊢
  have hl : lv_has ls 2 [(0, .ref h), (1, .int (nI k))] := hl
  refine lv_aload_n hx hb d_St_kind_0 rfl (lv_at hl 0 rfl) ?_
  refine va_get (D := (dC, dI)) (ci := 9) (v := .ref b_y) (C := R_St) (T := F_St) (N := 12) hx hb hts i_St hown hK hP 0 rfl rfl 0 (by decide) (hts _ gw_182) (fun _ h9 => h9) rfl d_St_kind_1 ?_
  refine lv_aload_n hx hb d_St_kind_4 rfl (lv_at hl 0 rfl) ?_
  refine va_get (D := (dC, dI)) (ci := 9) (v := .ref ch) (C := R_St) (T := F_St) (N := 12) hx hb hts i_St hown hK hP 0 rfl rfl 9 (by decide) (hts _ gw_224) (fun _ h9 => h9) rfl d_St_kind_5 ?_
  refine va_get (D := (dC, dI)) (ci := 1) (v := .ref cat) (C := R_Ch) (T := F_Ch) (N := 6) hx hb hts i_Ch hown hK hP 2 rfl rfl 0 (by decide) (hts _ gw_88) (fun _ h9 => h9) rfl d_St_kind_8 ?_
  refine lv_iload_n hx hb d_St_kind_11 rfl (lv_at hl 1 rfl) ?_
  refine va_iald hx hb hK hP 3 0 rfl rfl (vp_in_nI (by omega) (by omega)) d_St_kind_12 ?_
  rw [show (nI k).toNatClampNeg = k from nI_clamp (by omega)]
  refine lv_topi (fun x_1 ex_1 => ?_)
  obtain rfl : x_1 = nI a := by rw [ex_1]; first | done | (exact hca)
  refine va_bald hx hb hK hP 1 1 rfl rfl (vp_in_nI (by omega) (by omega)) d_St_kind_13 ?_
  rw [show (nI a).toNatClampNeg = a from nI_clamp (by omega)]
  exact W.iret (v := f a) hx hb hr (fun t ht hW => ⟨⟨_, (), rfl, rfl, by rw [ht]; exact hP, va_K.moved hW.alike hK, hD⟩, hS.F ht⟩) hS.2.2 d_St_kind_14
set_option maxHeartbeats 4000000 in
set_option maxRecDepth 100000 in
/-- where the name of a change stands -/
theorem m_St_nameAt (l : Launch) (dC : Nat → ClassId) (dI : Nat → Nat → Nat) (cI cB cL cZ cR : ClassId) (h b_y ch cat : Nat) (sk_from sk_firstDependency sk_firstChange sk_dependencies sk_hashes sk_byHash sk_leansOn sk_leantBy sk_lines sk_patches ch_patch ch_file ch_firstLine ch_adds ch_files : Value) (f ca : Nat → Int32) (k a : Nat) (sz : Nat) (hk : k < 38000) (hca : ca k = nI a) (ha : a + 5 < 290000) : Met l y_St_nameAt ws_St_nameAt ({ frames := 0, cells := 0, slots := 0, locals := 0 }) (xw_Pc dC dI [(cI, .int), (cB, .byte), (cL, .long), (cZ, .boolean), (cR, .object "PatchStore$Repository")] [.ref h, .int (nI k)] [(h, .inr (9, [.ref b_y, sk_from, sk_firstDependency, sk_firstChange, sk_dependencies, sk_hashes, sk_byHash, sk_leansOn, sk_leantBy, .ref ch, sk_lines, sk_patches])), (b_y, .inl (cB, 290000, .inl f)), (ch, .inr (1, [.ref cat, ch_patch, ch_file, ch_firstLine, ch_adds, ch_files])), (cat, .inl (cI, 38000, .inl ca))] sz) (va_Qi (fun (r : Int32) (_ : Unit) => r = nI (nmAt f a)) (fun _ t => xw_B dC dI [(cI, .int), (cB, .byte), (cL, .long), (cZ, .boolean), (cR, .object "PatchStore$Repository")] (va_A [(h, .inr (9, [.ref b_y, sk_from, sk_firstDependency, sk_firstChange, sk_dependencies, sk_hashes, sk_byHash, sk_leansOn, sk_leantBy, .ref ch, sk_lines, sk_patches])), (b_y, .inl (cB, 290000, .inl f)), (ch, .inr (1, [.ref cat, ch_patch, ch_file, ch_firstLine, ch_adds, ch_files])), (cat, .inl (cI, 38000, .inl ca))] sz) [(h, .inr (9, [.ref b_y, sk_from, sk_firstDependency, sk_firstChange, sk_dependencies, sk_hashes, sk_byHash, sk_leansOn, sk_leantBy, .ref ch, sk_lines, sk_patches])), (b_y, .inl (cB, 290000, .inl f)), (ch, .inr (1, [.ref cat, ch_patch, ch_file, ch_firstLine, ch_adds, ch_files])), (cat, .inl (cI, 38000, .inl ca))] t) (va_A [(h, .inr (9, [.ref b_y, sk_from, sk_firstDependency, sk_firstChange, sk_dependencies, sk_hashes, sk_byHash, sk_leansOn, sk_leantBy, .ref ch, sk_lines, sk_patches])), (b_y, .inl (cB, 290000, .inl f)), (ch, .inr (1, [.ref cat, ch_patch, ch_file, ch_firstLine, ch_adds, ch_files])), (cat, .inl (cI, 38000, .inl ca))] sz)) 0 0 (va_A [(h, .inr (9, [.ref b_y, sk_from, sk_firstDependency, sk_firstChange, sk_dependencies, sk_hashes, sk_byHash, sk_leansOn, sk_leantBy, .ref ch, sk_lines, sk_patches])), (b_y, .inl (cB, 290000, .inl f)), (ch, .inr (1, [.ref cat, ch_patch, ch_file, ch_firstLine, ch_adds, ch_files])), (cat, .inl (cI, 38000, .inl ca))] sz) := by
  refine Met.ofW (cc := prog_10_method_5_code) (maxL := 3) (ret := (Option.some Jvm.ClassFile.FieldType.int)) (by decide) rfl ?_
  intro p e s m args below meth c s₁ B hml hv
  obtain ⟨rfl, hsz, hP, hK, hD0⟩ := hv
  have hx := B.exec
  have hb := B.bytes
  have hr := B.returns
  have hts0 := atoms_spec (ws := ws_St_nameAt) B.pre
  have hts : ∀ w ∈ xg_1, w.before _ s = true := fun w h => hts0 w (List.mem_cons_of_mem _ h)
  have hown : s.vm.findClass "PatchStore$Stock" = some m.cls := findClass_of_methodNamed B.named
  have hlocks := B.notSynchronized
  subst hsz
  have hD := hD0.self (sz := s.heap.size)
  generalize hAe : va_A [(h, .inr (9, [.ref b_y, sk_from, sk_firstDependency, sk_firstChange, sk_dependencies, sk_hashes, sk_byHash, sk_leansOn, sk_leantBy, .ref ch, sk_lines, sk_patches])), (b_y, .inl (cB, 290000, .inl f)), (ch, .inr (1, [.ref cat, ch_patch, ch_file, ch_firstLine, ch_adds, ch_files])), (cat, .inl (cI, 38000, .inl ca))] s.heap.size = A at hD ⊢
  have hA : ∀ q : Nat, s.heap.size ≤ q → A q := fun q h => by rw [← hAe]; exact Or.inr h
  have hS : va_S A s.heap s.heap [] := va_S.rf
  have hl := lv_entry ([.ref h, .int (nI k)]) (n := 3) (Nat.le_of_ble_eq_true rfl)
  rw [lg_entry_eq]
  generalize (lg_sl ([.ref h, .int (nI k)]) ++ List.replicate (3 - (lg_sl ([.ref h, .int (nI k)])).length) Slot.unset).toArray = ls at hl ⊢
  have hl : lv_has ls 3 [(0, .ref h), (1, .int (nI k))] := hl
  refine lv_aload_n hx hb d_St_nameAt_0 rfl (lv_at hl 0 rfl) ?_
  refine va_get (D := (dC, dI)) (ci := 9) (v := .ref ch) (C := R_St) (T := F_St) (N := 12) hx hb hts i_St hown hK hP 0 rfl rfl 9 (by decide) (hts _ gw_224) (fun _ h9 => h9) rfl d_St_nameAt_1 ?_
  refine va_get (D := (dC, dI)) (ci := 1) (v := .ref cat) (C := R_Ch) (T := F_Ch) (N := 6) hx hb hts i_Ch hown hK hP 2 rfl rfl 0 (by decide) (hts _ gw_88) (fun _ h9 => h9) rfl d_St_nameAt_4 ?_
  refine lv_iload_n hx hb d_St_nameAt_7 rfl (lv_at hl 1 rfl) ?_
  refine va_iald hx hb hK hP 3 0 rfl rfl (vp_in_nI (by omega) (by omega)) d_St_nameAt_8 ?_
  rw [show (nI k).toNatClampNeg = k from nI_clamp (by omega)]
  refine lv_topi (fun x_1 ex_1 => ?_)
  obtain rfl : x_1 = nI a := by rw [ex_1]; first | done | (exact hca)
  refine lv_istore_n (lv' := [(2, .int (nI a)), (0, .ref h), (1, .int (nI k))]) hx hb d_St_nameAt_9 rfl hl (by decide) rfl (fun ls hl => ?_)
  refine lv_aload_n hx hb d_St_nameAt_10 rfl (lv_at hl 1 rfl) ?_
  refine va_get (D := (dC, dI)) (ci := 9) (v := .ref b_y) (C := R_St) (T := F_St) (N := 12) hx hb hts i_St hown hK hP 0 rfl rfl 0 (by decide) (hts _ gw_182) (fun _ h9 => h9) rfl d_St_nameAt_11 ?_
  refine lv_iload_n hx hb d_St_nameAt_14 rfl (lv_at hl 0 rfl) ?_
  refine va_bald hx hb hK hP 1 1 rfl rfl (vp_in_nI (by omega) (by omega)) d_St_nameAt_15 ?_
  rw [show (nI a).toNatClampNeg = a from nI_clamp (by omega)]
  refine lv_if_ne (tgt := 25) hx hb d_St_nameAt_16 (by decide) (fun c_16 => ?_) (fun c_16 => ?_)
  · have c9 : ¬ f a = 0 := c_16
    refine lv_iload_n hx hb d_St_nameAt_25 rfl (lv_at hl 0 rfl) ?_
    refine lv_bipush (v := 6) hx hb d_St_nameAt_26 (by decide) ?_
    refine lv_iadd hx hb d_St_nameAt_28 ?_
    refine lv_topi (fun x_2 ex_2 => ?_)
    obtain rfl : x_2 = nI (a + 6) := by rw [ex_2]; first | done | (exact nI_add a 6)
    refine lv_iconst (v := 4) hx hb d_St_nameAt_29 (by decide) ?_
    refine lv_aload_n hx hb d_St_nameAt_30 rfl (lv_at hl 1 rfl) ?_
    refine va_get (D := (dC, dI)) (ci := 9) (v := .ref b_y) (C := R_St) (T := F_St) (N := 12) hx hb hts i_St hown hK hP 0 rfl rfl 0 (by decide) (hts _ gw_182) (fun _ h9 => h9) rfl d_St_nameAt_31 ?_
    refine lv_iload_n hx hb d_St_nameAt_34 rfl (lv_at hl 0 rfl) ?_
    refine lv_iconst (v := 5) hx hb d_St_nameAt_35 (by decide) ?_
    refine lv_iadd hx hb d_St_nameAt_36 ?_
    refine lv_topi (fun x_3 ex_3 => ?_)
    obtain rfl : x_3 = nI (a + 5) := by rw [ex_3]; first | done | (exact nI_add a 5)
    refine va_bald hx hb hK hP 1 1 rfl rfl (vp_in_nI (by omega) (by omega)) d_St_nameAt_37 ?_
    rw [show (nI (a + 5)).toNatClampNeg = (a + 5) from nI_clamp (by omega)]
    refine lv_sipush (v := 255) hx hb d_St_nameAt_38 (by decide) ?_
    refine lv_iand hx hb d_St_nameAt_41 ?_
    refine lv_topi (fun x_4 ex_4 => ?_)
    obtain rfl : x_4 = nI (b8 (f (a + 5))) := by rw [ex_4]; first | done | (exact b8_eq _)
    refine lv_imul hx hb d_St_nameAt_42 ?_
    refine lv_topi (fun x_5 ex_5 => ?_)
    obtain rfl : x_5 = nI (4 * b8 (f (a + 5))) := by rw [ex_5]; first | done | (exact nI_mul 4 _)
    refine lv_iadd hx hb d_St_nameAt_43 ?_
    refine lv_topi (fun x_6 ex_6 => ?_)
    obtain rfl : x_6 = nI (a + 6 + 4 * b8 (f (a + 5))) := by rw [ex_6]; first | done | (exact nI_add _ _)
    exact W.iret (v := nI (a + 6 + 4 * b8 (f (a + 5)))) hx hb hr (fun t ht hW => ⟨⟨_, (), rfl, by unfold nmAt; rw [if_neg c9], by rw [ht]; exact hP, va_K.moved hW.alike hK, hD⟩, hS.F ht⟩) hS.2.2 d_St_nameAt_44
  · have c9 : f a = 0 := c_16
    refine lv_iload_n hx hb d_St_nameAt_19 rfl (lv_at hl 0 rfl) ?_
    refine lv_iconst (v := 5) hx hb d_St_nameAt_20 (by decide) ?_
    refine lv_iadd hx hb d_St_nameAt_21 ?_
    refine lv_topi (fun x_7 ex_7 => ?_)
    obtain rfl : x_7 = nI (a + 5) := by rw [ex_7]; first | done | (exact nI_add a 5)
    refine lv_goto (tgt := 44) hx hb d_St_nameAt_22 (by decide) ?_
    exact W.iret (v := nI (a + 5)) hx hb hr (fun t ht hW => ⟨⟨_, (), rfl, by unfold nmAt; rw [if_pos c9], by rw [ht]; exact hP, va_K.moved hW.alike hK, hD⟩, hS.F ht⟩) hS.2.2 d_St_nameAt_44
set_option maxHeartbeats 4000000 in
set_option maxRecDepth 100000 in
/-- whether a change gives a name -/
theorem m_St_isNaming (l : Launch) (dC : Nat → ClassId) (dI : Nat → Nat → Nat) (cI cB cL cZ cR : ClassId) (h b_y ch cat : Nat) (sk_from sk_firstDependency sk_firstChange sk_dependencies sk_hashes sk_byHash sk_leansOn sk_leantBy sk_lines sk_patches ch_patch ch_file ch_firstLine ch_adds ch_files : Value) (f ca : Nat → Int32) (k a : Nat) (sz : Nat) (hk : k < 38000) (hca : ca k = nI a) (ha : a + 5 < 290000) (hn : f a = 1 → nmAt f a < 290000) : Met l y_St_isNaming ws_St_isNaming ({ frames := 1, cells := 0, slots := 0, locals := 60 }) (xw_Pc dC dI [(cI, .int), (cB, .byte), (cL, .long), (cZ, .boolean), (cR, .object "PatchStore$Repository")] [.ref h, .int (nI k)] [(h, .inr (9, [.ref b_y, sk_from, sk_firstDependency, sk_firstChange, sk_dependencies, sk_hashes, sk_byHash, sk_leansOn, sk_leantBy, .ref ch, sk_lines, sk_patches])), (b_y, .inl (cB, 290000, .inl f)), (ch, .inr (1, [.ref cat, ch_patch, ch_file, ch_firstLine, ch_adds, ch_files])), (cat, .inl (cI, 38000, .inl ca))] sz) (va_Qi (fun (r : Int32) (_ : Unit) => (r = 1 ∧ isNm f a) ∨ (r = 0 ∧ ¬ isNm f a)) (fun _ t => xw_B dC dI [(cI, .int), (cB, .byte), (cL, .long), (cZ, .boolean), (cR, .object "PatchStore$Repository")] (va_A [(h, .inr (9, [.ref b_y, sk_from, sk_firstDependency, sk_firstChange, sk_dependencies, sk_hashes, sk_byHash, sk_leansOn, sk_leantBy, .ref ch, sk_lines, sk_patches])), (b_y, .inl (cB, 290000, .inl f)), (ch, .inr (1, [.ref cat, ch_patch, ch_file, ch_firstLine, ch_adds, ch_files])), (cat, .inl (cI, 38000, .inl ca))] sz) [(h, .inr (9, [.ref b_y, sk_from, sk_firstDependency, sk_firstChange, sk_dependencies, sk_hashes, sk_byHash, sk_leansOn, sk_leantBy, .ref ch, sk_lines, sk_patches])), (b_y, .inl (cB, 290000, .inl f)), (ch, .inr (1, [.ref cat, ch_patch, ch_file, ch_firstLine, ch_adds, ch_files])), (cat, .inl (cI, 38000, .inl ca))] t) (va_A [(h, .inr (9, [.ref b_y, sk_from, sk_firstDependency, sk_firstChange, sk_dependencies, sk_hashes, sk_byHash, sk_leansOn, sk_leantBy, .ref ch, sk_lines, sk_patches])), (b_y, .inl (cB, 290000, .inl f)), (ch, .inr (1, [.ref cat, ch_patch, ch_file, ch_firstLine, ch_adds, ch_files])), (cat, .inl (cI, 38000, .inl ca))] sz)) 0 0 (va_A [(h, .inr (9, [.ref b_y, sk_from, sk_firstDependency, sk_firstChange, sk_dependencies, sk_hashes, sk_byHash, sk_leansOn, sk_leantBy, .ref ch, sk_lines, sk_patches])), (b_y, .inl (cB, 290000, .inl f)), (ch, .inr (1, [.ref cat, ch_patch, ch_file, ch_firstLine, ch_adds, ch_files])), (cat, .inl (cI, 38000, .inl ca))] sz) := by
  refine Met.ofW (cc := prog_10_method_6_code) (maxL := 3) (ret := (Option.some Jvm.ClassFile.FieldType.boolean)) (by decide) rfl ?_
  intro p e s m args below meth c s₁ B hml hv
  obtain ⟨rfl, hsz, hP, hK, hD0⟩ := hv
  have hx := B.exec
  have hb := B.bytes
  have hr := B.returns
  have hts0 := atoms_spec (ws := ws_St_isNaming) B.pre
  have hts : ∀ w ∈ xg_1, w.before _ s = true := fun w h => hts0 w (List.mem_cons_of_mem _ h)
  have hown : s.vm.findClass "PatchStore$Stock" = some m.cls := findClass_of_methodNamed B.named
  have hlocks := B.notSynchronized
  subst hsz
  have hD := hD0.self (sz := s.heap.size)
  generalize hAe : va_A [(h, .inr (9, [.ref b_y, sk_from, sk_firstDependency, sk_firstChange, sk_dependencies, sk_hashes, sk_byHash, sk_leansOn, sk_leantBy, .ref ch, sk_lines, sk_patches])), (b_y, .inl (cB, 290000, .inl f)), (ch, .inr (1, [.ref cat, ch_patch, ch_file, ch_firstLine, ch_adds, ch_files])), (cat, .inl (cI, 38000, .inl ca))] s.heap.size = A at hD ⊢
  have hA : ∀ q : Nat, s.heap.size ≤ q → A q := fun q h => by rw [← hAe]; exact Or.inr h
  have hS : va_S A s.heap s.heap [] := va_S.rf
  have hl := lv_entry ([.ref h, .int (nI k)]) (n := 3) (Nat.le_of_ble_eq_true rfl)
  rw [lg_entry_eq]
  generalize (lg_sl ([.ref h, .int (nI k)]) ++ List.replicate (3 - (lg_sl ([.ref h, .int (nI k)])).length) Slot.unset).toArray = ls at hl ⊢
  have hl : lv_has ls 3 [(0, .ref h), (1, .int (nI k))] := hl
  refine lv_aload_n hx hb d_St_isNaming_0 rfl (lv_at hl 0 rfl) ?_
  refine lv_iload_n hx hb d_St_isNaming_1 rfl (lv_at hl 1 rfl) ?_
  have hPc := hP.sub (ws' := [(h, .inr (9, [.ref b_y, sk_from, sk_firstDependency, sk_firstChange, sk_dependencies, sk_hashes, sk_byHash, sk_leansOn, sk_leantBy, .ref ch, sk_lines, sk_patches])), (b_y, .inl (cB, 290000, .inl f)), (ch, .inr (1, [.ref cat, ch_patch, ch_file, ch_firstLine, ch_adds, ch_files])), (cat, .inl (cI, 38000, .inl ca))]) [0, 1, 2, 3] rfl
  have hDc := hD.sub (ws' := [(h, .inr (9, [.ref b_y, sk_from, sk_firstDependency, sk_firstChange, sk_dependencies, sk_hashes, sk_byHash, sk_leansOn, sk_leantBy, .ref ch, sk_lines, sk_patches])), (b_y, .inl (cB, 290000, .inl f)), (ch, .inr (1, [.ref cat, ch_patch, ch_file, ch_firstLine, ch_adds, ch_files])), (cat, .inl (cI, 38000, .inl ca))]) [0, 1, 2, 3] (by decide) rfl
  have hFc := va_free (wc := [(h, .inr (9, [.ref b_y, sk_from, sk_firstDependency, sk_firstChange, sk_dependencies, sk_hashes, sk_byHash, sk_leansOn, sk_leantBy, .ref ch, sk_lines, sk_patches])), (b_y, .inl (cB, 290000, .inl f)), (ch, .inr (1, [.ref cat, ch_patch, ch_file, ch_firstLine, ch_adds, ch_files])), (cat, .inl (cI, 38000, .inl ca))]) hD hS hA [0, 1, 2, 3] rfl
  refine va_calli (va_runV (As := [.int (nI k)]) (rest := []) ⟨hx, hb, hml, hown, hts⟩ (m_St_kind l dC dI cI cB cL cZ cR h b_y ch cat (sk_from) (sk_firstDependency) (sk_firstChange) (sk_dependencies) (sk_hashes) (sk_byHash) (sk_leansOn) (sk_leantBy) (sk_lines) (sk_patches) (ch_patch) (ch_file) (ch_firstLine) (ch_adds) (ch_files) f ca k a s.heap.size hk hca (by omega)) (cwV 1 hts (xg_V gw_897 gw_890 gw_891 gw_3 gw_892) rfl rfl rfl (by decide +kernel) ⟨Nat.le_of_ble_eq_true rfl, Nat.le_of_ble_eq_true rfl⟩) ⟨xw_blind, va_recv hK hPc (ci := 9) (q0 := 0) rfl rfl, fun U hU hW => ⟨rfl, by rw [hU], by rw [hU]; exact hPc, va_K.moved hW.alike hK, hDc.weaken (fun _ _ _ _ => trivial)⟩⟩ rfl rfl hl.1 rfl (lv_room (Nat.le_of_ble_eq_true rfl)) d_St_isNaming_2 ⟨Nat.le_of_ble_eq_true rfl, Nat.le_of_ble_eq_true rfl⟩) hS (fun q _ h => hFc q h) hFc (fun r9 u t H1 locs ht hvm hw hB hz1 hk1 hS => ?_)
  obtain ⟨hP1, hK1, hD1⟩ := hB
  rw [ht] at hP1
  obtain ⟨hP, hD⟩ := va_join (wr := []) (w1 := [(h, .inr (9, [.ref b_y, sk_from, sk_firstDependency, sk_firstChange, sk_dependencies, sk_hashes, sk_byHash, sk_leansOn, sk_leantBy, .ref ch, sk_lines, sk_patches])), (b_y, .inl (cB, 290000, .inl f)), (ch, .inr (1, [.ref cat, ch_patch, ch_file, ch_firstLine, ch_adds, ch_files])), (cat, .inl (cI, 38000, .inl ca))]) hP hD [0, 1, 2, 3] [] rfl rfl (by decide) (by decide) hk1 hFc hP1 hD1
  generalize H1 = H at hP hS ⊢
  have hP : va_P (dC, dI) classes [(h, .inr (9, [.ref b_y, sk_from, sk_firstDependency, sk_firstChange, sk_dependencies, sk_hashes, sk_byHash, sk_leansOn, sk_leantBy, .ref ch, sk_lines, sk_patches])), (b_y, .inl (cB, 290000, .inl f)), (ch, .inr (1, [.ref cat, ch_patch, ch_file, ch_firstLine, ch_adds, ch_files])), (cat, .inl (cI, 38000, .inl ca))] H := hP
  have hD : va_D A [(h, .inr (9, [.ref b_y, sk_from, sk_firstDependency, sk_firstChange, sk_dependencies, sk_hashes, sk_byHash, sk_leansOn, sk_leantBy, .ref ch, sk_lines, sk_patches])), (b_y, .inl (cB, 290000, .inl f)), (ch, .inr (1, [.ref cat, ch_patch, ch_file, ch_firstLine, ch_adds, ch_files])), (cat, .inl (cI, 38000, .inl ca))] := hD
  subst hw
  refine lv_istore_n (lv' := [(2, .int (f a)), (0, .ref h), (1, .int (nI k))]) hx hb d_St_isNaming_5 rfl hl (by decide) rfl (fun ls hl => ?_)
  refine lv_iload_n hx hb d_St_isNaming_6 rfl (lv_at hl 0 rfl) ?_
  refine lv_if_eq (tgt := 28) hx hb d_St_isNaming_7 (by decide) (fun c_7 => ?_) (fun c_7 => ?_)
  · have hq : isNm f a := Or.inl c_7
    refine lv_iconst (v := 1) hx hb d_St_isNaming_28 (by decide) ?_
    refine lv_goto (tgt := 33) hx hb d_St_isNaming_29 (by decide) ?_
    exact W.zret (v := 1) hx hb hr nz_b1 (fun t ht hW => ⟨⟨_, (), rfl, Or.inl ⟨rfl, hq⟩, by rw [ht]; exact hP, va_K.moved hW.alike hK, hD⟩, hS.F ht⟩) hS.2.2 d_St_isNaming_33
  · refine lv_iload_n hx hb d_St_isNaming_10 rfl (lv_at hl 0 rfl) ?_
    refine lv_iconst (v := 1) hx hb d_St_isNaming_11 (by decide) ?_
    refine lv_icmp_ne (tgt := 32) hx hb d_St_isNaming_12 (by decide) (fun c_12 => ?_) (fun c_12 => ?_)
    · have hq : ¬ isNm f a := fun z => z.elim c_7 (fun z => c_12 z.1)
      refine lv_iconst (v := 0) hx hb d_St_isNaming_32 (by decide) ?_
      exact W.zret (v := 0) hx hb hr nz_b0 (fun t ht hW => ⟨⟨_, (), rfl, Or.inr ⟨rfl, hq⟩, by rw [ht]; exact hP, va_K.moved hW.alike hK, hD⟩, hS.F ht⟩) hS.2.2 d_St_isNaming_33
    · have hn9 := hn c_12
      refine lv_aload_n hx hb d_St_isNaming_15 rfl (lv_at hl 1 rfl) ?_
      refine va_get (D := (dC, dI)) (ci := 9) (v := .ref b_y) (C := R_St) (T := F_St) (N := 12) hx hb hts i_St hown hK hP 0 rfl rfl 0 (by decide) (hts _ gw_182) (fun _ h9 => h9) rfl d_St_isNaming_16 ?_
      refine lv_aload_n hx hb d_St_isNaming_19 rfl (lv_at hl 1 rfl) ?_
      refine lv_iload_n hx hb d_St_isNaming_20 rfl (lv_at hl 2 rfl) ?_
      have hPc := hP.sub (ws' := [(h, .inr (9, [.ref b_y, sk_from, sk_firstDependency, sk_firstChange, sk_dependencies, sk_hashes, sk_byHash, sk_leansOn, sk_leantBy, .ref ch, sk_lines, sk_patches])), (b_y, .inl (cB, 290000, .inl f)), (ch, .inr (1, [.ref cat, ch_patch, ch_file, ch_firstLine, ch_adds, ch_files])), (cat, .inl (cI, 38000, .inl ca))]) [0, 1, 2, 3] rfl
      have hDc := hD.sub (ws' := [(h, .inr (9, [.ref b_y, sk_from, sk_firstDependency, sk_firstChange, sk_dependencies, sk_hashes, sk_byHash, sk_leansOn, sk_leantBy, .ref ch, sk_lines, sk_patches])), (b_y, .inl (cB, 290000, .inl f)), (ch, .inr (1, [.ref cat, ch_patch, ch_file, ch_firstLine, ch_adds, ch_files])), (cat, .inl (cI, 38000, .inl ca))]) [0, 1, 2, 3] (by decide) rfl
      have hFc := va_free (wc := [(h, .inr (9, [.ref b_y, sk_from, sk_firstDependency, sk_firstChange, sk_dependencies, sk_hashes, sk_byHash, sk_leansOn, sk_leantBy, .ref ch, sk_lines, sk_patches])), (b_y, .inl (cB, 290000, .inl f)), (ch, .inr (1, [.ref cat, ch_patch, ch_file, ch_firstLine, ch_adds, ch_files])), (cat, .inl (cI, 38000, .inl ca))]) hD hS hA [0, 1, 2, 3] rfl
      refine va_calli (va_runV (As := [.int (nI k)]) (rest := [.ref b_y]) ⟨hx, hb, hml, hown, hts⟩ (m_St_nameAt l dC dI cI cB cL cZ cR h b_y ch cat (sk_from) (sk_firstDependency) (sk_firstChange) (sk_dependencies) (sk_hashes) (sk_byHash) (sk_leansOn) (sk_leantBy) (sk_lines) (sk_patches) (ch_patch) (ch_file) (ch_firstLine) (ch_adds) (ch_files) f ca k a H.size hk hca (by omega)) (cwV 1 hts (xg_V gw_898 gw_899 gw_900 gw_3 gw_901) rfl rfl rfl (by decide +kernel) ⟨Nat.le_of_ble_eq_true rfl, Nat.le_of_ble_eq_true rfl⟩) ⟨xw_blind, va_recv hK hPc (ci := 9) (q0 := 0) rfl rfl, fun U hU hW => ⟨rfl, by rw [hU], by rw [hU]; exact hPc, va_K.moved hW.alike hK, hDc.weaken (fun _ _ _ _ => trivial)⟩⟩ rfl rfl hl.1 rfl (lv_room (Nat.le_of_ble_eq_true rfl)) d_St_isNaming_21 ⟨Nat.le_of_ble_eq_true rfl, Nat.le_of_ble_eq_true rfl⟩) hS (fun q _ h => hFc q h) hFc (fun r9 u t H1 locs ht hvm hw hB hz1 hk1 hS => ?_)
      obtain ⟨hP1, hK1, hD1⟩ := hB
      rw [ht] at hP1
      obtain ⟨hP, hD⟩ := va_join (wr := []) (w1 := [(h, .inr (9, [.ref b_y, sk_from, sk_firstDependency, sk_firstChange, sk_dependencies, sk_hashes, sk_byHash, sk_leansOn, sk_leantBy, .ref ch, sk_lines, sk_patches])), (b_y, .inl (cB, 290000, .inl f)), (ch, .inr (1, [.ref cat, ch_patch, ch_file, ch_firstLine, ch_adds, ch_files])), (cat, .inl (cI, 38000, .inl ca))]) hP hD [0, 1, 2, 3] [] rfl rfl (by decide) (by decide) hk1 hFc hP1 hD1
      generalize H1 = H at hP hS ⊢
      have hP : va_P (dC, dI) classes [(h, .inr (9, [.ref b_y, sk_from, sk_firstDependency, sk_firstChange, sk_dependencies, sk_hashes, sk_byHash, sk_leansOn, sk_leantBy, .ref ch, sk_lines, sk_patches])), (b_y, .inl (cB, 290000, .inl f)), (ch, .inr (1, [.ref cat, ch_patch, ch_file, ch_firstLine, ch_adds, ch_files])), (cat, .inl (cI, 38000, .inl ca))] H := hP
      have hD : va_D A [(h, .inr (9, [.ref b_y, sk_from, sk_firstDependency, sk_firstChange, sk_dependencies, sk_hashes, sk_byHash, sk_leansOn, sk_leantBy, .ref ch, sk_lines, sk_patches])), (b_y, .inl (cB, 290000, .inl f)), (ch, .inr (1, [.ref cat, ch_patch, ch_file, ch_firstLine, ch_adds, ch_files])), (cat, .inl (cI, 38000, .inl ca))] := hD
      subst hw
      refine va_bald hx hb hK hP 1 1 rfl rfl (vp_in_nI (by omega) (by omega)) d_St_isNaming_24 ?_
      rw [show (nI (nmAt f a)).toNatClampNeg = (nmAt f a) from nI_clamp (by omega)]
      refine lv_if_eq (tgt := 32) hx hb d_St_isNaming_25 (by decide) (fun c_25 => ?_) (fun c_25 => ?_)
      · have hq : ¬ isNm f a := fun z => z.elim c_7 (fun z => z.2 c_25)
        refine lv_iconst (v := 0) hx hb d_St_isNaming_32 (by decide) ?_
        exact W.zret (v := 0) hx hb hr nz_b0 (fun t ht hW => ⟨⟨_, (), rfl, Or.inr ⟨rfl, hq⟩, by rw [ht]; exact hP, va_K.moved hW.alike hK, hD⟩, hS.F ht⟩) hS.2.2 d_St_isNaming_33
      · have hq : isNm f a := Or.inr ⟨c_12, c_25⟩
        refine lv_iconst (v := 1) hx hb d_St_isNaming_28 (by decide) ?_
        refine lv_goto (tgt := 33) hx hb d_St_isNaming_29 (by decide) ?_
        exact W.zret (v := 1) hx hb hr nz_b1 (fun t ht hW => ⟨⟨_, (), rfl, Or.inl ⟨rfl, hq⟩, by rw [ht]; exact hP, va_K.moved hW.alike hK, hD⟩, hS.F ht⟩) hS.2.2 d_St_isNaming_33
set_option maxHeartbeats 4000000 in
set_option maxRecDepth 100000 in
/-- where the down of an insert stands -/
theorem m_St_downAt (l : Launch) (dC : Nat → ClassId) (dI : Nat → Nat → Nat) (cI cB cL cZ cR : ClassId) (h b_y ch cat : Nat) (sk_from sk_firstDependency sk_firstChange sk_dependencies sk_hashes sk_byHash sk_leansOn sk_leantBy sk_lines sk_patches ch_patch ch_file ch_firstLine ch_adds ch_files : Value) (f ca : Nat → Int32) (k a : Nat) (sz : Nat) (hk : k < 38000) (hca : ca k = nI a) (ha : a + 5 < 290000) : Met l y_St_downAt ws_St_downAt ({ frames := 0, cells := 0, slots := 0, locals := 0 }) (xw_Pc dC dI [(cI, .int), (cB, .byte), (cL, .long), (cZ, .boolean), (cR, .object "PatchStore$Repository")] [.ref h, .int (nI k)] [(h, .inr (9, [.ref b_y, sk_from, sk_firstDependency, sk_firstChange, sk_dependencies, sk_hashes, sk_byHash, sk_leansOn, sk_leantBy, .ref ch, sk_lines, sk_patches])), (b_y, .inl (cB, 290000, .inl f)), (ch, .inr (1, [.ref cat, ch_patch, ch_file, ch_firstLine, ch_adds, ch_files])), (cat, .inl (cI, 38000, .inl ca))] sz) (va_Qi (fun (r : Int32) (_ : Unit) => r = nI (plEnd f (a + 5))) (fun _ t => xw_B dC dI [(cI, .int), (cB, .byte), (cL, .long), (cZ, .boolean), (cR, .object "PatchStore$Repository")] (va_A [(h, .inr (9, [.ref b_y, sk_from, sk_firstDependency, sk_firstChange, sk_dependencies, sk_hashes, sk_byHash, sk_leansOn, sk_leantBy, .ref ch, sk_lines, sk_patches])), (b_y, .inl (cB, 290000, .inl f)), (ch, .inr (1, [.ref cat, ch_patch, ch_file, ch_firstLine, ch_adds, ch_files])), (cat, .inl (cI, 38000, .inl ca))] sz) [(h, .inr (9, [.ref b_y, sk_from, sk_firstDependency, sk_firstChange, sk_dependencies, sk_hashes, sk_byHash, sk_leansOn, sk_leantBy, .ref ch, sk_lines, sk_patches])), (b_y, .inl (cB, 290000, .inl f)), (ch, .inr (1, [.ref cat, ch_patch, ch_file, ch_firstLine, ch_adds, ch_files])), (cat, .inl (cI, 38000, .inl ca))] t) (va_A [(h, .inr (9, [.ref b_y, sk_from, sk_firstDependency, sk_firstChange, sk_dependencies, sk_hashes, sk_byHash, sk_leansOn, sk_leantBy, .ref ch, sk_lines, sk_patches])), (b_y, .inl (cB, 290000, .inl f)), (ch, .inr (1, [.ref cat, ch_patch, ch_file, ch_firstLine, ch_adds, ch_files])), (cat, .inl (cI, 38000, .inl ca))] sz)) 0 0 (va_A [(h, .inr (9, [.ref b_y, sk_from, sk_firstDependency, sk_firstChange, sk_dependencies, sk_hashes, sk_byHash, sk_leansOn, sk_leantBy, .ref ch, sk_lines, sk_patches])), (b_y, .inl (cB, 290000, .inl f)), (ch, .inr (1, [.ref cat, ch_patch, ch_file, ch_firstLine, ch_adds, ch_files])), (cat, .inl (cI, 38000, .inl ca))] sz) := by
  refine Met.ofW (cc := prog_10_method_7_code) (maxL := 3) (ret := (Option.some Jvm.ClassFile.FieldType.int)) (by decide) rfl ?_
  intro p e s m args below meth c s₁ B hml hv
  obtain ⟨rfl, hsz, hP, hK, hD0⟩ := hv
  have hx := B.exec
  have hb := B.bytes
  have hr := B.returns
  have hts0 := atoms_spec (ws := ws_St_downAt) B.pre
  have hts : ∀ w ∈ xg_1, w.before _ s = true := fun w h => hts0 w (List.mem_cons_of_mem _ h)
  have hown : s.vm.findClass "PatchStore$Stock" = some m.cls := findClass_of_methodNamed B.named
  have hlocks := B.notSynchronized
  subst hsz
  have hD := hD0.self (sz := s.heap.size)
  generalize hAe : va_A [(h, .inr (9, [.ref b_y, sk_from, sk_firstDependency, sk_firstChange, sk_dependencies, sk_hashes, sk_byHash, sk_leansOn, sk_leantBy, .ref ch, sk_lines, sk_patches])), (b_y, .inl (cB, 290000, .inl f)), (ch, .inr (1, [.ref cat, ch_patch, ch_file, ch_firstLine, ch_adds, ch_files])), (cat, .inl (cI, 38000, .inl ca))] s.heap.size = A at hD ⊢
  have hA : ∀ q : Nat, s.heap.size ≤ q → A q := fun q h => by rw [← hAe]; exact Or.inr h
  have hS : va_S A s.heap s.heap [] := va_S.rf
  have hl := lv_entry ([.ref h, .int (nI k)]) (n := 3) (Nat.le_of_ble_eq_true rfl)
  rw [lg_entry_eq]
  generalize (lg_sl ([.ref h, .int (nI k)]) ++ List.replicate (3 - (lg_sl ([.ref h, .int (nI k)])).length) Slot.unset).toArray = ls at hl ⊢
  have hl : lv_has ls 3 [(0, .ref h), (1, .int (nI k))] := hl
  refine lv_aload_n hx hb d_St_downAt_0 rfl (lv_at hl 0 rfl) ?_
  refine va_get (D := (dC, dI)) (ci := 9) (v := .ref ch) (C := R_St) (T := F_St) (N := 12) hx hb hts i_St hown hK hP 0 rfl rfl 9 (by decide) (hts _ gw_224) (fun _ h9 => h9) rfl d_St_downAt_1 ?_
  refine va_get (D := (dC, dI)) (ci := 1) (v := .ref cat) (C := R_Ch) (T := F_Ch) (N := 6) hx hb hts i_Ch hown hK hP 2 rfl rfl 0 (by decide) (hts _ gw_88) (fun _ h9 => h9) rfl d_St_downAt_4 ?_
  refine lv_iload_n hx hb d_St_downAt_7 rfl (lv_at hl 1 rfl) ?_
  refine va_iald hx hb hK hP 3 0 rfl rfl (vp_in_nI (by omega) (by omega)) d_St_downAt_8 ?_
  rw [show (nI k).toNatClampNeg = k from nI_clamp (by omega)]
  refine lv_topi (fun x_1 ex_1 => ?_)
  obtain rfl : x_1 = nI a := by rw [ex_1]; first | done | (exact hca)
  refine lv_iconst (v := 5) hx hb d_St_downAt_9 (by decide) ?_
  refine lv_iadd hx hb d_St_downAt_10 ?_
  refine lv_topi (fun x_2 ex_2 => ?_)
  obtain rfl : x_2 = nI (a + 5) := by rw [ex_2]; first | done | (exact nI_add a 5)
  refine lv_istore_n (lv' := [(2, .int (nI (a + 5))), (0, .ref h), (1, .int (nI k))]) hx hb d_St_downAt_11 rfl hl (by decide) rfl (fun ls hl => ?_)
  refine lv_iload_n hx hb d_St_downAt_12 rfl (lv_at hl 0 rfl) ?_
  refine lv_aload_n hx hb d_St_downAt_13 rfl (lv_at hl 1 rfl) ?_
  refine va_get (D := (dC, dI)) (ci := 9) (v := .ref b_y) (C := R_St) (T := F_St) (N := 12) hx hb hts i_St hown hK hP 0 rfl rfl 0 (by decide) (hts _ gw_182) (fun _ h9 => h9) rfl d_St_downAt_14 ?_
  refine lv_iload_n hx hb d_St_downAt_17 rfl (lv_at hl 0 rfl) ?_
  refine va_bald hx hb hK hP 1 1 rfl rfl (vp_in_nI (by omega) (by omega)) d_St_downAt_18 ?_
  rw [show (nI (a + 5)).toNatClampNeg = (a + 5) from nI_clamp (by omega)]
  refine lv_if_ne (tgt := 26) hx hb d_St_downAt_19 (by decide) (fun c_19 => ?_) (fun c_19 => ?_)
  · have c9 : ¬ f (a + 5) = 0 := c_19
    refine lv_bipush (v := 7) hx hb d_St_downAt_26 (by decide) ?_
    refine lv_iadd hx hb d_St_downAt_28 ?_
    refine lv_topi (fun x_3 ex_3 => ?_)
    obtain rfl : x_3 = nI (a + 5 + 7) := by rw [ex_3]; first | done | (exact nI_add _ _)
    exact W.iret (v := nI (a + 5 + 7)) hx hb hr (fun t ht hW => ⟨⟨_, (), rfl, congrArg nI (plEnd_n c9).symm, by rw [ht]; exact hP, va_K.moved hW.alike hK, hD⟩, hS.F ht⟩) hS.2.2 d_St_downAt_29
  · have c9 : f (a + 5) = 0 := c_19
    refine lv_iconst (v := 1) hx hb d_St_downAt_22 (by decide) ?_
    refine lv_goto (tgt := 28) hx hb d_St_downAt_23 (by decide) ?_
    refine lv_iadd hx hb d_St_downAt_28 ?_
    refine lv_topi (fun x_4 ex_4 => ?_)
    obtain rfl : x_4 = nI (a + 5 + 1) := by rw [ex_4]; first | done | (exact nI_add _ _)
    exact W.iret (v := nI (a + 5 + 1)) hx hb hr (fun t ht hW => ⟨⟨_, (), rfl, congrArg nI (plEnd_z c9).symm, by rw [ht]; exact hP, va_K.moved hW.alike hK, hD⟩, hS.F ht⟩) hS.2.2 d_St_downAt_29
set_option maxHeartbeats 4000000 in
set_option maxRecDepth 100000 in
/-- where the number of lines of an insert stands -/
theorem m_St_linesAt (l : Launch) (dC : Nat → ClassId) (dI : Nat → Nat → Nat) (cI cB cL cZ cR : ClassId) (h b_y ch cat : Nat) (sk_from sk_firstDependency sk_firstChange sk_dependencies sk_hashes sk_byHash sk_leansOn sk_leantBy sk_lines sk_patches ch_patch ch_file ch_firstLine ch_adds ch_files : Value) (f ca : Nat → Int32) (k a : Nat) (sz : Nat) (hk : k < 38000) (hca : ca k = nI a) (ha : a + 5 < 290000) (hd : plEnd f (a + 5) < 290000) : Met l y_St_linesAt ws_St_linesAt ({ frames := 1, cells := 0, slots := 0, locals := 60 }) (xw_Pc dC dI [(cI, .int), (cB, .byte), (cL, .long), (cZ, .boolean), (cR, .object "PatchStore$Repository")] [.ref h, .int (nI k)] [(h, .inr (9, [.ref b_y, sk_from, sk_firstDependency, sk_firstChange, sk_dependencies, sk_hashes, sk_byHash, sk_leansOn, sk_leantBy, .ref ch, sk_lines, sk_patches])), (b_y, .inl (cB, 290000, .inl f)), (ch, .inr (1, [.ref cat, ch_patch, ch_file, ch_firstLine, ch_adds, ch_files])), (cat, .inl (cI, 38000, .inl ca))] sz) (va_Qi (fun (r : Int32) (_ : Unit) => r = nI (plEnd f (plEnd f (a + 5)))) (fun _ t => xw_B dC dI [(cI, .int), (cB, .byte), (cL, .long), (cZ, .boolean), (cR, .object "PatchStore$Repository")] (va_A [(h, .inr (9, [.ref b_y, sk_from, sk_firstDependency, sk_firstChange, sk_dependencies, sk_hashes, sk_byHash, sk_leansOn, sk_leantBy, .ref ch, sk_lines, sk_patches])), (b_y, .inl (cB, 290000, .inl f)), (ch, .inr (1, [.ref cat, ch_patch, ch_file, ch_firstLine, ch_adds, ch_files])), (cat, .inl (cI, 38000, .inl ca))] sz) [(h, .inr (9, [.ref b_y, sk_from, sk_firstDependency, sk_firstChange, sk_dependencies, sk_hashes, sk_byHash, sk_leansOn, sk_leantBy, .ref ch, sk_lines, sk_patches])), (b_y, .inl (cB, 290000, .inl f)), (ch, .inr (1, [.ref cat, ch_patch, ch_file, ch_firstLine, ch_adds, ch_files])), (cat, .inl (cI, 38000, .inl ca))] t) (va_A [(h, .inr (9, [.ref b_y, sk_from, sk_firstDependency, sk_firstChange, sk_dependencies, sk_hashes, sk_byHash, sk_leansOn, sk_leantBy, .ref ch, sk_lines, sk_patches])), (b_y, .inl (cB, 290000, .inl f)), (ch, .inr (1, [.ref cat, ch_patch, ch_file, ch_firstLine, ch_adds, ch_files])), (cat, .inl (cI, 38000, .inl ca))] sz)) 0 0 (va_A [(h, .inr (9, [.ref b_y, sk_from, sk_firstDependency, sk_firstChange, sk_dependencies, sk_hashes, sk_byHash, sk_leansOn, sk_leantBy, .ref ch, sk_lines, sk_patches])), (b_y, .inl (cB, 290000, .inl f)), (ch, .inr (1, [.ref cat, ch_patch, ch_file, ch_firstLine, ch_adds, ch_files])), (cat, .inl (cI, 38000, .inl ca))] sz) := by
  refine Met.ofW (cc := prog_10_method_8_code) (maxL := 3) (ret := (Option.some Jvm.ClassFile.FieldType.int)) (by decide) rfl ?_
  intro p e s m args below meth c s₁ B hml hv
  obtain ⟨rfl, hsz, hP, hK, hD0⟩ := hv
  have hx := B.exec
  have hb := B.bytes
  have hr := B.returns
  have hts0 := atoms_spec (ws := ws_St_linesAt) B.pre
  have hts : ∀ w ∈ xg_1, w.before _ s = true := fun w h => hts0 w (List.mem_cons_of_mem _ h)
  have hown : s.vm.findClass "PatchStore$Stock" = some m.cls := findClass_of_methodNamed B.named
  have hlocks := B.notSynchronized
  subst hsz
  have hD := hD0.self (sz := s.heap.size)
  generalize hAe : va_A [(h, .inr (9, [.ref b_y, sk_from, sk_firstDependency, sk_firstChange, sk_dependencies, sk_hashes, sk_byHash, sk_leansOn, sk_leantBy, .ref ch, sk_lines, sk_patches])), (b_y, .inl (cB, 290000, .inl f)), (ch, .inr (1, [.ref cat, ch_patch, ch_file, ch_firstLine, ch_adds, ch_files])), (cat, .inl (cI, 38000, .inl ca))] s.heap.size = A at hD ⊢
  have hA : ∀ q : Nat, s.heap.size ≤ q → A q := fun q h => by rw [← hAe]; exact Or.inr h
  have hS : va_S A s.heap s.heap [] := va_S.rf
  have hl := lv_entry ([.ref h, .int (nI k)]) (n := 3) (Nat.le_of_ble_eq_true rfl)
  rw [lg_entry_eq]
  generalize (lg_sl ([.ref h, .int (nI k)]) ++ List.replicate (3 - (lg_sl ([.ref h, .int (nI k)])).length) Slot.unset).toArray = ls at hl ⊢
  have hl : lv_has ls 3 [(0, .ref h), (1, .int (nI k))] := hl
  refine lv_aload_n hx hb d_St_linesAt_0 rfl (lv_at hl 0 rfl) ?_
  refine lv_iload_n hx hb d_St_linesAt_1 rfl (lv_at hl 1 rfl) ?_
  have hPc := hP.sub (ws' := [(h, .inr (9, [.ref b_y, sk_from, sk_firstDependency, sk_firstChange, sk_dependencies, sk_hashes, sk_byHash, sk_leansOn, sk_leantBy, .ref ch, sk_lines, sk_patches])), (b_y, .inl (cB, 290000, .inl f)), (ch, .inr (1, [.ref cat, ch_patch, ch_file, ch_firstLine, ch_adds, ch_files])), (cat, .inl (cI, 38000, .inl ca))]) [0, 1, 2, 3] rfl
  have hDc := hD.sub (ws' := [(h, .inr (9, [.ref b_y, sk_from, sk_firstDependency, sk_firstChange, sk_dependencies, sk_hashes, sk_byHash, sk_leansOn, sk_leantBy, .ref ch, sk_lines, sk_patches])), (b_y, .inl (cB, 290000, .inl f)), (ch, .inr (1, [.ref cat, ch_patch, ch_file, ch_firstLine, ch_adds, ch_files])), (cat, .inl (cI, 38000, .inl ca))]) [0, 1, 2, 3] (by decide) rfl
  have hFc := va_free (wc := [(h, .inr (9, [.ref b_y, sk_from, sk_firstDependency, sk_firstChange, sk_dependencies, sk_hashes, sk_byHash, sk_leansOn, sk_leantBy, .ref ch, sk_lines, sk_patches])), (b_y, .inl (cB, 290000, .inl f)), (ch, .inr (1, [.ref cat, ch_patch, ch_file, ch_firstLine, ch_adds, ch_files])), (cat, .inl (cI, 38000, .inl ca))]) hD hS hA [0, 1, 2, 3] rfl
  refine va_calli (va_runV (As := [.int (nI k)]) (rest := []) ⟨hx, hb, hml, hown, hts⟩ (m_St_downAt l dC dI cI cB cL cZ cR h b_y ch cat (sk_from) (sk_firstDependency) (sk_firstChange) (sk_dependencies) (sk_hashes) (sk_byHash) (sk_leansOn) (sk_leantBy) (sk_lines) (sk_patches) (ch_patch) (ch_file) (ch_firstLine) (ch_adds) (ch_files) f ca k a s.heap.size hk hca (by omega)) (cwV 1 hts (xg_V gw_922 gw_911 gw_912 gw_3 gw_913) rfl rfl rfl (by decide +kernel) ⟨Nat.le_of_ble_eq_true rfl, Nat.le_of_ble_eq_true rfl⟩) ⟨xw_blind, va_recv hK hPc (ci := 9) (q0 := 0) rfl rfl, fun U hU hW => ⟨rfl, by rw [hU], by rw [hU]; exact hPc, va_K.moved hW.alike hK, hDc.weaken (fun _ _ _ _ => trivial)⟩⟩ rfl rfl hl.1 rfl (lv_room (Nat.le_of_ble_eq_true rfl)) d_St_linesAt_2 ⟨Nat.le_of_ble_eq_true rfl, Nat.le_of_ble_eq_true rfl⟩) hS (fun q _ h => hFc q h) hFc (fun r9 u t H1 locs ht hvm hw hB hz1 hk1 hS => ?_)
  obtain ⟨hP1, hK1, hD1⟩ := hB
  rw [ht] at hP1
  obtain ⟨hP, hD⟩ := va_join (wr := []) (w1 := [(h, .inr (9, [.ref b_y, sk_from, sk_firstDependency, sk_firstChange, sk_dependencies, sk_hashes, sk_byHash, sk_leansOn, sk_leantBy, .ref ch, sk_lines, sk_patches])), (b_y, .inl (cB, 290000, .inl f)), (ch, .inr (1, [.ref cat, ch_patch, ch_file, ch_firstLine, ch_adds, ch_files])), (cat, .inl (cI, 38000, .inl ca))]) hP hD [0, 1, 2, 3] [] rfl rfl (by decide) (by decide) hk1 hFc hP1 hD1
  generalize H1 = H at hP hS ⊢
  have hP : va_P (dC, dI) classes [(h, .inr (9, [.ref b_y, sk_from, sk_firstDependency, sk_firstChange, sk_dependencies, sk_hashes, sk_byHash, sk_leansOn, sk_leantBy, .ref ch, sk_lines, sk_patches])), (b_y, .inl (cB, 290000, .inl f)), (ch, .inr (1, [.ref cat, ch_patch, ch_file, ch_firstLine, ch_adds, ch_files])), (cat, .inl (cI, 38000, .inl ca))] H := hP
  have hD : va_D A [(h, .inr (9, [.ref b_y, sk_from, sk_firstDependency, sk_firstChange, sk_dependencies, sk_hashes, sk_byHash, sk_leansOn, sk_leantBy, .ref ch, sk_lines, sk_patches])), (b_y, .inl (cB, 290000, .inl f)), (ch, .inr (1, [.ref cat, ch_patch, ch_file, ch_firstLine, ch_adds, ch_files])), (cat, .inl (cI, 38000, .inl ca))] := hD
  subst hw
  refine lv_istore_n (lv' := [(2, .int (nI (plEnd f (a + 5)))), (0, .ref h), (1, .int (nI k))]) hx hb d_St_linesAt_5 rfl hl (by decide) rfl (fun ls hl => ?_)
  refine lv_iload_n hx hb d_St_linesAt_6 rfl (lv_at hl 0 rfl) ?_
  refine lv_aload_n hx hb d_St_linesAt_7 rfl (lv_at hl 1 rfl) ?_
  refine va_get (D := (dC, dI)) (ci := 9) (v := .ref b_y) (C := R_St) (T := F_St) (N := 12) hx hb hts i_St hown hK hP 0 rfl rfl 0 (by decide) (hts _ gw_182) (fun _ h9 => h9) rfl d_St_linesAt_8 ?_
  refine lv_iload_n hx hb d_St_linesAt_11 rfl (lv_at hl 0 rfl) ?_
  refine va_bald hx hb hK hP 1 1 rfl rfl (vp_in_nI (by omega) (by omega)) d_St_linesAt_12 ?_
  rw [show (nI (plEnd f (a + 5))).toNatClampNeg = (plEnd f (a + 5)) from nI_clamp (by omega)]
  refine lv_if_ne (tgt := 20) hx hb d_St_linesAt_13 (by decide) (fun c_13 => ?_) (fun c_13 => ?_)
  · have c9 : ¬ f (plEnd f (a + 5)) = 0 := c_13
    refine lv_bipush (v := 7) hx hb d_St_linesAt_20 (by decide) ?_
    refine lv_iadd hx hb d_St_linesAt_22 ?_
    refine lv_topi (fun x_1 ex_1 => ?_)
    obtain rfl : x_1 = nI (plEnd f (a + 5) + 7) := by rw [ex_1]; first | done | (exact nI_add _ _)
    exact W.iret (v := nI (plEnd f (a + 5) + 7)) hx hb hr (fun t ht hW => ⟨⟨_, (), rfl, congrArg nI (plEnd_n c9).symm, by rw [ht]; exact hP, va_K.moved hW.alike hK, hD⟩, hS.F ht⟩) hS.2.2 d_St_linesAt_23
  · have c9 : f (plEnd f (a + 5)) = 0 := c_13
    refine lv_iconst (v := 1) hx hb d_St_linesAt_16 (by decide) ?_
    refine lv_goto (tgt := 22) hx hb d_St_linesAt_17 (by decide) ?_
    refine lv_iadd hx hb d_St_linesAt_22 ?_
    refine lv_topi (fun x_2 ex_2 => ?_)
    obtain rfl : x_2 = nI (plEnd f (a + 5) + 1) := by rw [ex_2]; first | done | (exact nI_add _ _)
    exact W.iret (v := nI (plEnd f (a + 5) + 1)) hx hb hr (fun t ht hW => ⟨⟨_, (), rfl, congrArg nI (plEnd_z c9).symm, by rw [ht]; exact hP, va_K.moved hW.alike hK, hD⟩, hS.F ht⟩) hS.2.2 d_St_linesAt_23
end
section
/-! 51.cmp.lean.txt -/
def y_St_compareHashes : MethodName := ⟨"PatchStore$Stock", "compareHashes", "([BI[BI)I"⟩
abbrev c_St_compareHashes : Cond := (Jvm.Cond.code ({ cls := "PatchStore$Stock", name := "compareHashes", desc := "([BI[BI)I" } : Jvm.MethodName) prog_10_method_15_code (6 : Nat) (Option.some Jvm.ClassFile.FieldType.int))
abbrev ws_St_compareHashes : List Cond := c_St_compareHashes :: xg_1
theorem d_St_compareHashes_0 : decode prog_10_method_15_code 0 = .ok (.iconst 0, 1) := by decide +kernel
theorem d_St_compareHashes_1 : decode prog_10_method_15_code 1 = .ok (.istore 4, 2) := by decide +kernel
theorem d_St_compareHashes_3 : decode prog_10_method_15_code 3 = .ok (.iload 4, 2) := by decide +kernel
theorem d_St_compareHashes_5 : decode prog_10_method_15_code 5 = .ok (.bipush 32, 2) := by decide +kernel
theorem d_St_compareHashes_7 : decode prog_10_method_15_code 7 = .ok (.if_icmp .ge 40, 3) := by decide +kernel
theorem d_St_compareHashes_10 : decode prog_10_method_15_code 10 = .ok (.aload_n 0, 1) := by decide +kernel
theorem d_St_compareHashes_11 : decode prog_10_method_15_code 11 = .ok (.iload_n 1, 1) := by decide +kernel
theorem d_St_compareHashes_12 : decode prog_10_method_15_code 12 = .ok (.iload 4, 2) := by decide +kernel
theorem d_St_compareHashes_14 : decode prog_10_method_15_code 14 = .ok (.iadd, 1) := by decide +kernel
theorem d_St_compareHashes_15 : decode prog_10_method_15_code 15 = .ok (.baload, 1) := by decide +kernel
theorem d_St_compareHashes_16 : decode prog_10_method_15_code 16 = .ok (.sipush 255, 3) := by decide +kernel
theorem d_St_compareHashes_19 : decode prog_10_method_15_code 19 = .ok (.iand, 1) := by decide +kernel
theorem d_St_compareHashes_20 : decode prog_10_method_15_code 20 = .ok (.aload_n 2, 1) := by decide +kernel
theorem d_St_compareHashes_21 : decode prog_10_method_15_code 21 = .ok (.iload_n 3, 1) := by decide +kernel
theorem d_St_compareHashes_22 : decode prog_10_method_15_code 22 = .ok (.iload 4, 2) := by decide +kernel
theorem d_St_compareHashes_24 : decode prog_10_method_15_code 24 = .ok (.iadd, 1) := by decide +kernel
theorem d_St_compareHashes_25 : decode prog_10_method_15_code 25 = .ok (.baload, 1) := by decide +kernel
theorem d_St_compareHashes_26 : decode prog_10_method_15_code 26 = .ok (.sipush 255, 3) := by decide +kernel
theorem d_St_compareHashes_29 : decode prog_10_method_15_code 29 = .ok (.iand, 1) := by decide +kernel
theorem d_St_compareHashes_30 : decode prog_10_method_15_code 30 = .ok (.isub, 1) := by decide +kernel
theorem d_St_compareHashes_31 : decode prog_10_method_15_code 31 = .ok (.istore 5, 2) := by decide +kernel
theorem d_St_compareHashes_33 : decode prog_10_method_15_code 33 = .ok (.iload 5, 2) := by decide +kernel
theorem d_St_compareHashes_35 : decode prog_10_method_15_code 35 = .ok (.ifCond .eq 6, 3) := by decide +kernel
theorem d_St_compareHashes_38 : decode prog_10_method_15_code 38 = .ok (.iload 5, 2) := by decide +kernel
theorem d_St_compareHashes_40 : decode prog_10_method_15_code 40 = .ok (.ireturn, 1) := by decide +kernel
theorem d_St_compareHashes_41 : decode prog_10_method_15_code 41 = .ok (.iinc 4 1, 3) := by decide +kernel
theorem d_St_compareHashes_44 : decode prog_10_method_15_code 44 = .ok (.goto (-41), 3) := by decide +kernel
theorem d_St_compareHashes_47 : decode prog_10_method_15_code 47 = .ok (.iconst 0, 1) := by decide +kernel
theorem d_St_compareHashes_48 : decode prog_10_method_15_code 48 = .ok (.ireturn, 1) := by decide +kernel
/-- the first difference of n bytes -/
def bo (f g : Nat → Int32) : Nat → Nat → Nat → Int32
  | _, _, 0 => 0
  | i, j, n + 1 => if nI (b8 (f i)) - nI (b8 (g j)) = 0 then bo f g (i + 1) (j + 1) n else nI (b8 (f i)) - nI (b8 (g j))
theorem bo_s (f g : Nat → Int32) (i j n : Nat) : bo f g i j (n + 1) = if nI (b8 (f i)) - nI (b8 (g j)) = 0 then bo f g (i + 1) (j + 1) n else nI (b8 (f i)) - nI (b8 (g j)) := rfl
set_option maxHeartbeats 4000000 in
set_option maxRecDepth 100000 in
/-- hashes compared -/
theorem m_St_cmp (l : Launch) (dC : Nat → ClassId) (dI : Nat → Nat → Nat) (cI cB cL cZ cR : ClassId) (p1 p2 : Nat) (N1 N2 : Nat) (f g : Nat → Int32) (i j : Nat) (sz : Nat) (hN1 : N1 < 2 ^ 31) (hN2 : N2 < 2 ^ 31) (h1 : i + 32 ≤ N1) (h2 : j + 32 ≤ N2) : Met l y_St_compareHashes ws_St_compareHashes ({ frames := 0, cells := 0, slots := 0, locals := 0 }) (xw_Pc dC dI [(cI, .int), (cB, .byte), (cL, .long), (cZ, .boolean), (cR, .object "PatchStore$Repository")] [.ref p1, .int (nI i), .ref p2, .int (nI j)] [(p1, .inl (cB, N1, .inl f)), (p2, .inl (cB, N2, .inl g))] sz) (va_Qi (fun (r : Int32) (_ : Unit) => r = bo f g i j 32) (fun _ t => xw_B dC dI [(cI, .int), (cB, .byte), (cL, .long), (cZ, .boolean), (cR, .object "PatchStore$Repository")] (va_A [(p1, .inl (cB, N1, .inl f)), (p2, .inl (cB, N2, .inl g))] sz) [(p1, .inl (cB, N1, .inl f)), (p2, .inl (cB, N2, .inl g))] t) (va_A [(p1, .inl (cB, N1, .inl f)), (p2, .inl (cB, N2, .inl g))] sz)) 0 0 (va_A [(p1, .inl (cB, N1, .inl f)), (p2, .inl (cB, N2, .inl g))] sz) := by
  refine Met.ofW (cc := prog_10_method_15_code) (maxL := 6) (ret := (Option.some Jvm.ClassFile.FieldType.int)) (by decide) rfl ?_
  intro p e s m args below meth c s₁ B hml hv
  obtain ⟨rfl, hsz, hP, hK, hD0⟩ := hv
  have hx := B.exec
  have hb := B.bytes
  have hr := B.returns
  have hts0 := atoms_spec (ws := ws_St_compareHashes) B.pre
  have hts : ∀ w ∈ xg_1, w.before _ s = true := fun w h => hts0 w (List.mem_cons_of_mem _ h)
  have hown : s.vm.findClass "PatchStore$Stock" = some m.cls := findClass_of_methodNamed B.named
  have hlocks := B.notSynchronized
  subst hsz
  have hD := hD0.self (sz := s.heap.size)
  generalize hAe : va_A [(p1, .inl (cB, N1, .inl f)), (p2, .inl (cB, N2, .inl g))] s.heap.size = A at hD ⊢
  have hA : ∀ q : Nat, s.heap.size ≤ q → A q := fun q h => by rw [← hAe]; exact Or.inr h
  have hS : va_S A s.heap s.heap [] := va_S.rf
  have hl := lv_entry ([.ref p1, .int (nI i), .ref p2, .int (nI j)]) (n := 6) (Nat.le_of_ble_eq_true rfl)
  rw [lg_entry_eq]
  generalize (lg_sl ([.ref p1, .int (nI i), .ref p2, .int (nI j)]) ++ List.replicate (6 - (lg_sl ([.ref p1, .int (nI i), .ref p2, .int (nI j)])).length) Slot.unset).toArray = ls at hl ⊢
  have hl : lv_has ls 6 [(0, .ref p1), (1, .int (nI i)), (2, .ref p2), (3, .int (nI j))] := hl
  generalize hQe : MQ _ _ _ _ _ _ _ = Q
  refine lv_iconst (v := 0) hx hb d_St_compareHashes_0 (by decide) ?_
  refine lv_istore (lv' := [(4, .int 0), (0, .ref p1), (1, .int (nI i)), (2, .ref p2), (3, .int (nI j))]) hx hb d_St_compareHashes_1 hl (by decide) rfl (fun ls hl => ?_)
  have loop_3 : ∀ (n : Nat) (k : Nat) (H : Heap) (locs : List Loc) (ls : Array Slot), 32 - k < n → (k ≤ 32) → (bo f g (i + k) (j + k) (32 - k) = bo f g i j 32) → va_P (dC, dI) classes [(p1, .inl (cB, N1, .inl f)), (p2, .inl (cB, N2, .inl g))] H → va_D A [(p1, .inl (cB, N1, .inl f)), (p2, .inl (cB, N2, .inl g))] → va_S A s.heap H locs → lv_has ls 6 [(0, .ref p1), (1, .int (nI i)), (2, .ref p2), (3, .int (nI j)), (4, .int (nI k))] → W p l e (headSpec ws_St_compareHashes ({ frames := 0, cells := 0, slots := 0, locals := 0 })).room s m ([.ref p1, .int (nI i), .ref p2, .int (nI j)] : List Value).toArray below meth c H locs 0 0 Q (F0 m 3 ls []) := by
    intro n
    induction n with
    | zero => intro k H locs ls hm; exact absurd hm (Nat.not_lt_zero _)
    | succ n ih_3 =>
      intro k H locs ls hm hk hi hP hD hS hl
      refine lv_iload hx hb d_St_compareHashes_3 (lv_at hl 4 rfl) ?_
      refine lv_bipush (v := 32) hx hb d_St_compareHashes_5 (by decide) ?_
      refine lv_icmp_ge (tgt := 47) hx hb d_St_compareHashes_7 (by decide) (fun c_7 => ?_) (fun c_7 => ?_)
      · have hk9 : k = 32 := by have := (nI_leI (a := 32) (b := k) (by omega) (by omega)).mp c_7; omega
        refine lv_iconst (v := 0) hx hb d_St_compareHashes_47 (by decide) ?_
        rw [← hQe]
        exact W.iret (v := 0) hx hb hr (fun t ht hW => ⟨⟨_, (), rfl, by rw [← hi, hk9]; rfl, by rw [ht]; exact hP, va_K.moved hW.alike hK, hD⟩, hS.F ht⟩) hS.2.2 d_St_compareHashes_48
      · have hk9 : k < 32 := by rcases Nat.lt_or_ge k 32 with z | z; exact z; exact absurd (nI_le (a := 32) z (by omega)) c_7
        refine lv_aload_n hx hb d_St_compareHashes_10 rfl (lv_at hl 0 rfl) ?_
        refine lv_iload_n hx hb d_St_compareHashes_11 rfl (lv_at hl 1 rfl) ?_
        refine lv_iload hx hb d_St_compareHashes_12 (lv_at hl 4 rfl) ?_
        refine lv_iadd hx hb d_St_compareHashes_14 ?_
        refine lv_topi (fun x_1 ex_1 => ?_)
        obtain rfl : x_1 = nI (i + k) := by rw [ex_1]; first | done | (exact nI_add i k)
        refine va_bald hx hb hK hP 0 1 rfl rfl (vp_in_nI (by omega) (by omega)) d_St_compareHashes_15 ?_
        rw [show (nI (i + k)).toNatClampNeg = (i + k) from nI_clamp (by omega)]
        refine lv_sipush (v := 255) hx hb d_St_compareHashes_16 (by decide) ?_
        refine lv_iand hx hb d_St_compareHashes_19 ?_
        refine lv_topi (fun x_2 ex_2 => ?_)
        obtain rfl : x_2 = nI (b8 (f (i + k))) := by rw [ex_2]; first | done | (exact b8_eq _)
        refine lv_aload_n hx hb d_St_compareHashes_20 rfl (lv_at hl 2 rfl) ?_
        refine lv_iload_n hx hb d_St_compareHashes_21 rfl (lv_at hl 3 rfl) ?_
        refine lv_iload hx hb d_St_compareHashes_22 (lv_at hl 4 rfl) ?_
        refine lv_iadd hx hb d_St_compareHashes_24 ?_
        refine lv_topi (fun x_3 ex_3 => ?_)
        obtain rfl : x_3 = nI (j + k) := by rw [ex_3]; first | done | (exact nI_add j k)
        refine va_bald hx hb hK hP 1 1 rfl rfl (vp_in_nI (by omega) (by omega)) d_St_compareHashes_25 ?_
        rw [show (nI (j + k)).toNatClampNeg = (j + k) from nI_clamp (by omega)]
        refine lv_sipush (v := 255) hx hb d_St_compareHashes_26 (by decide) ?_
        refine lv_iand hx hb d_St_compareHashes_29 ?_
        refine lv_topi (fun x_4 ex_4 => ?_)
        obtain rfl : x_4 = nI (b8 (g (j + k))) := by rw [ex_4]; first | done | (exact b8_eq _)
        refine lv_isub hx hb d_St_compareHashes_30 ?_
        refine lv_istore (lv' := [(5, .int ((nI (b8 (f (i + k)))) - (nI (b8 (g (j + k)))))), (0, .ref p1), (1, .int (nI i)), (2, .ref p2), (3, .int (nI j)), (4, .int (nI k))]) hx hb d_St_compareHashes_31 hl (by decide) rfl (fun ls hl => ?_)
        refine lv_iload hx hb d_St_compareHashes_33 (lv_at hl 0 rfl) ?_
        refine lv_if_eq (tgt := 41) hx hb d_St_compareHashes_35 (by decide) (fun c_35 => ?_) (fun c_35 => ?_)
        · refine lv_iinc (v := nI (k + 1)) (lv' := [(4, .int (nI (k + 1))), (5, .int ((nI (b8 (f (i + k)))) - (nI (b8 (g (j + k)))))), (0, .ref p1), (1, .int (nI i)), (2, .ref p2), (3, .int (nI j))]) hx hb d_St_compareHashes_41 hl (k := 5) rfl (by exact nI_1 k) (by decide) rfl (fun ls hl => ?_)
          refine lv_goto (tgt := 3) hx hb d_St_compareHashes_44 (by decide) ?_
          exact ih_3 (k + 1) _ _ _ (by omega) (by omega) (by rw [← hi, show 32 - k = (32 - (k + 1)) + 1 by omega, bo_s, if_pos c_35]; rfl) hP hD hS (lv_sub hl [2, 3, 4, 5, 0] rfl)
        · refine lv_iload hx hb d_St_compareHashes_38 (lv_at hl 0 rfl) ?_
          rw [← hQe]
          exact W.iret (v := (nI (b8 (f (i + k)))) - (nI (b8 (g (j + k))))) hx hb hr (fun t ht hW => ⟨⟨_, (), rfl, by rw [← hi, show 32 - k = (31 - k) + 1 by omega, bo_s, if_neg c_35], by rw [ht]; exact hP, va_K.moved hW.alike hK, hD⟩, hS.F ht⟩) hS.2.2 d_St_compareHashes_40
  exact loop_3 _ 0 _ _ _ (Nat.lt_succ_self _) (Nat.zero_le _) (rfl) hP hD hS (lv_sub hl [1, 2, 3, 4, 0] rfl)
set_option maxHeartbeats 4000000 in
set_option maxRecDepth 100000 in
/-- hashes compared -/
theorem m_St_cmps (l : Launch) (dC : Nat → ClassId) (dI : Nat → Nat → Nat) (cI cB cL cZ cR : ClassId) (p1 : Nat) (N1 : Nat) (f : Nat → Int32) (i j : Nat) (sz : Nat) (hN1 : N1 < 2 ^ 31) (h1 : i + 32 ≤ N1) (h2 : j + 32 ≤ N1) : Met l y_St_compareHashes ws_St_compareHashes ({ frames := 0, cells := 0, slots := 0, locals := 0 }) (xw_Pc dC dI [(cI, .int), (cB, .byte), (cL, .long), (cZ, .boolean), (cR, .object "PatchStore$Repository")] [.ref p1, .int (nI i), .ref p1, .int (nI j)] [(p1, .inl (cB, N1, .inl f))] sz) (va_Qi (fun (r : Int32) (_ : Unit) => r = bo f f i j 32) (fun _ t => xw_B dC dI [(cI, .int), (cB, .byte), (cL, .long), (cZ, .boolean), (cR, .object "PatchStore$Repository")] (va_A [(p1, .inl (cB, N1, .inl f))] sz) [(p1, .inl (cB, N1, .inl f))] t) (va_A [(p1, .inl (cB, N1, .inl f))] sz)) 0 0 (va_A [(p1, .inl (cB, N1, .inl f))] sz) := by
  refine Met.ofW (cc := prog_10_method_15_code) (maxL := 6) (ret := (Option.some Jvm.ClassFile.FieldType.int)) (by decide) rfl ?_
  intro p e s m args below meth c s₁ B hml hv
  obtain ⟨rfl, hsz, hP, hK, hD0⟩ := hv
  have hx := B.exec
  have hb := B.bytes
  have hr := B.returns
  have hts0 := atoms_spec (ws := ws_St_compareHashes) B.pre
  have hts : ∀ w ∈ xg_1, w.before _ s = true := fun w h => hts0 w (List.mem_cons_of_mem _ h)
  have hown : s.vm.findClass "PatchStore$Stock" = some m.cls := findClass_of_methodNamed B.named
  have hlocks := B.notSynchronized
  subst hsz
  have hD := hD0.self (sz := s.heap.size)
  generalize hAe : va_A [(p1, .inl (cB, N1, .inl f))] s.heap.size = A at hD ⊢
  have hA : ∀ q : Nat, s.heap.size ≤ q → A q := fun q h => by rw [← hAe]; exact Or.inr h
  have hS : va_S A s.heap s.heap [] := va_S.rf
  have hl := lv_entry ([.ref p1, .int (nI i), .ref p1, .int (nI j)]) (n := 6) (Nat.le_of_ble_eq_true rfl)
  rw [lg_entry_eq]
  generalize (lg_sl ([.ref p1, .int (nI i), .ref p1, .int (nI j)]) ++ List.replicate (6 - (lg_sl ([.ref p1, .int (nI i), .ref p1, .int (nI j)])).length) Slot.unset).toArray = ls at hl ⊢
  have hl : lv_has ls 6 [(0, .ref p1), (1, .int (nI i)), (2, .ref p1), (3, .int (nI j))] := hl
  generalize hQe : MQ _ _ _ _ _ _ _ = Q
  refine lv_iconst (v := 0) hx hb d_St_compareHashes_0 (by decide) ?_
  refine lv_istore (lv' := [(4, .int 0), (0, .ref p1), (1, .int (nI i)), (2, .ref p1), (3, .int (nI j))]) hx hb d_St_compareHashes_1 hl (by decide) rfl (fun ls hl => ?_)
  have loop_3 : ∀ (n : Nat) (k : Nat) (H : Heap) (locs : List Loc) (ls : Array Slot), 32 - k < n → (k ≤ 32) → (bo f f (i + k) (j + k) (32 - k) = bo f f i j 32) → va_P (dC, dI) classes [(p1, .inl (cB, N1, .inl f))] H → va_D A [(p1, .inl (cB, N1, .inl f))] → va_S A s.heap H locs → lv_has ls 6 [(0, .ref p1), (1, .int (nI i)), (2, .ref p1), (3, .int (nI j)), (4, .int (nI k))] → W p l e (headSpec ws_St_compareHashes ({ frames := 0, cells := 0, slots := 0, locals := 0 })).room s m ([.ref p1, .int (nI i), .ref p1, .int (nI j)] : List Value).toArray below meth c H locs 0 0 Q (F0 m 3 ls []) := by
    intro n
    induction n with
    | zero => intro k H locs ls hm; exact absurd hm (Nat.not_lt_zero _)
    | succ n ih_3 =>
      intro k H locs ls hm hk hi hP hD hS hl
      refine lv_iload hx hb d_St_compareHashes_3 (lv_at hl 4 rfl) ?_
      refine lv_bipush (v := 32) hx hb d_St_compareHashes_5 (by decide) ?_
      refine lv_icmp_ge (tgt := 47) hx hb d_St_compareHashes_7 (by decide) (fun c_7 => ?_) (fun c_7 => ?_)
      · have hk9 : k = 32 := by have := (nI_leI (a := 32) (b := k) (by omega) (by omega)).mp c_7; omega
        refine lv_iconst (v := 0) hx hb d_St_compareHashes_47 (by decide) ?_
        rw [← hQe]
        exact W.iret (v := 0) hx hb hr (fun t ht hW => ⟨⟨_, (), rfl, by rw [← hi, hk9]; rfl, by rw [ht]; exact hP, va_K.moved hW.alike hK, hD⟩, hS.F ht⟩) hS.2.2 d_St_compareHashes_48
      · have hk9 : k < 32 := by rcases Nat.lt_or_ge k 32 with z | z; exact z; exact absurd (nI_le (a := 32) z (by omega)) c_7
        refine lv_aload_n hx hb d_St_compareHashes_10 rfl (lv_at hl 0 rfl) ?_
        refine lv_iload_n hx hb d_St_compareHashes_11 rfl (lv_at hl 1 rfl) ?_
        refine lv_iload hx hb d_St_compareHashes_12 (lv_at hl 4 rfl) ?_
        refine lv_iadd hx hb d_St_compareHashes_14 ?_
        refine lv_topi (fun x_1 ex_1 => ?_)
        obtain rfl : x_1 = nI (i + k) := by rw [ex_1]; first | done | (exact nI_add i k)
        refine va_bald hx hb hK hP 0 1 rfl rfl (vp_in_nI (by omega) (by omega)) d_St_compareHashes_15 ?_
        rw [show (nI (i + k)).toNatClampNeg = (i + k) from nI_clamp (by omega)]
        refine lv_sipush (v := 255) hx hb d_St_compareHashes_16 (by decide) ?_
        refine lv_iand hx hb d_St_compareHashes_19 ?_
        refine lv_topi (fun x_2 ex_2 => ?_)
        obtain rfl : x_2 = nI (b8 (f (i + k))) := by rw [ex_2]; first | done | (exact b8_eq _)
        refine lv_aload_n hx hb d_St_compareHashes_20 rfl (lv_at hl 2 rfl) ?_
        refine lv_iload_n hx hb d_St_compareHashes_21 rfl (lv_at hl 3 rfl) ?_
        refine lv_iload hx hb d_St_compareHashes_22 (lv_at hl 4 rfl) ?_
        refine lv_iadd hx hb d_St_compareHashes_24 ?_
        refine lv_topi (fun x_3 ex_3 => ?_)
        obtain rfl : x_3 = nI (j + k) := by rw [ex_3]; first | done | (exact nI_add j k)
        refine va_bald hx hb hK hP 0 1 rfl rfl (vp_in_nI (by omega) (by omega)) d_St_compareHashes_25 ?_
        rw [show (nI (j + k)).toNatClampNeg = (j + k) from nI_clamp (by omega)]
        refine lv_sipush (v := 255) hx hb d_St_compareHashes_26 (by decide) ?_
        refine lv_iand hx hb d_St_compareHashes_29 ?_
        refine lv_topi (fun x_4 ex_4 => ?_)
        obtain rfl : x_4 = nI (b8 (f (j + k))) := by rw [ex_4]; first | done | (exact b8_eq _)
        refine lv_isub hx hb d_St_compareHashes_30 ?_
        refine lv_istore (lv' := [(5, .int ((nI (b8 (f (i + k)))) - (nI (b8 (f (j + k)))))), (0, .ref p1), (1, .int (nI i)), (2, .ref p1), (3, .int (nI j)), (4, .int (nI k))]) hx hb d_St_compareHashes_31 hl (by decide) rfl (fun ls hl => ?_)
        refine lv_iload hx hb d_St_compareHashes_33 (lv_at hl 0 rfl) ?_
        refine lv_if_eq (tgt := 41) hx hb d_St_compareHashes_35 (by decide) (fun c_35 => ?_) (fun c_35 => ?_)
        · refine lv_iinc (v := nI (k + 1)) (lv' := [(4, .int (nI (k + 1))), (5, .int ((nI (b8 (f (i + k)))) - (nI (b8 (f (j + k)))))), (0, .ref p1), (1, .int (nI i)), (2, .ref p1), (3, .int (nI j))]) hx hb d_St_compareHashes_41 hl (k := 5) rfl (by exact nI_1 k) (by decide) rfl (fun ls hl => ?_)
          refine lv_goto (tgt := 3) hx hb d_St_compareHashes_44 (by decide) ?_
          exact ih_3 (k + 1) _ _ _ (by omega) (by omega) (by rw [← hi, show 32 - k = (32 - (k + 1)) + 1 by omega, bo_s, if_pos c_35]; rfl) hP hD hS (lv_sub hl [2, 3, 4, 5, 0] rfl)
        · refine lv_iload hx hb d_St_compareHashes_38 (lv_at hl 0 rfl) ?_
          rw [← hQe]
          exact W.iret (v := (nI (b8 (f (i + k)))) - (nI (b8 (f (j + k))))) hx hb hr (fun t ht hW => ⟨⟨_, (), rfl, by rw [← hi, show 32 - k = (31 - k) + 1 by omega, bo_s, if_neg c_35], by rw [ht]; exact hP, va_K.moved hW.alike hK, hD⟩, hS.F ht⟩) hS.2.2 d_St_compareHashes_40
  exact loop_3 _ 0 _ _ _ (Nat.lt_succ_self _) (Nat.zero_le _) (rfl) hP hD hS (lv_sub hl [1, 2, 3, 4, 0] rfl)
end
section
/-! 52.rank.lean.txt -/
theorem gw_779 : (Jvm.Cond.static ({ cls := "PatchStore$Stock", name := "compareHashes", desc := "([BI[BI)I" } : Jvm.MethodName)) ∈ xg_1 := xg_s4 59 rfl rfl
theorem gw_780 : (Jvm.Cond.code ({ cls := "PatchStore$Stock", name := "compareHashes", desc := "([BI[BI)I" } : Jvm.MethodName) prog_10_method_15_code (6 : Nat) (Option.some Jvm.ClassFile.FieldType.int)) ∈ xg_1 := xg_s4 60 rfl rfl
theorem gw_824 : (Jvm.Cond.methodLink "PatchStore$Stock" (105 : Nat) ({ cls := "PatchStore$Stock", name := "compareHashes", desc := "([BI[BI)I" } : Jvm.MethodName)) ∈ xg_1 := xg_s4 104 rfl rfl
def y_St_rankOf : MethodName := ⟨"PatchStore$Stock", "rankOf", "([BI)I"⟩
abbrev c_St_rankOf : Cond := (Jvm.Cond.code ({ cls := "PatchStore$Stock", name := "rankOf", desc := "([BI)I" } : Jvm.MethodName) prog_10_method_13_code (7 : Nat) (Option.some Jvm.ClassFile.FieldType.int))
abbrev ws_St_rankOf : List Cond := c_St_rankOf :: xg_1
theorem d_St_rankOf_0 : decode prog_10_method_13_code 0 = .ok (.iconst 0, 1) := by decide +kernel
theorem d_St_rankOf_1 : decode prog_10_method_13_code 1 = .ok (.istore_n 3, 1) := by decide +kernel
theorem d_St_rankOf_2 : decode prog_10_method_13_code 2 = .ok (.aload_n 0, 1) := by decide +kernel
theorem d_St_rankOf_3 : decode prog_10_method_13_code 3 = .ok (.getfield 56, 3) := by decide +kernel
theorem d_St_rankOf_6 : decode prog_10_method_13_code 6 = .ok (.istore 4, 2) := by decide +kernel
theorem d_St_rankOf_8 : decode prog_10_method_13_code 8 = .ok (.iconst 0, 1) := by decide +kernel
theorem d_St_rankOf_9 : decode prog_10_method_13_code 9 = .ok (.istore 5, 2) := by decide +kernel
theorem d_St_rankOf_11 : decode prog_10_method_13_code 11 = .ok (.iload 5, 2) := by decide +kernel
theorem d_St_rankOf_13 : decode prog_10_method_13_code 13 = .ok (.sipush 500, 3) := by decide +kernel
theorem d_St_rankOf_16 : decode prog_10_method_13_code 16 = .ok (.if_icmp .ge 57, 3) := by decide +kernel
theorem d_St_rankOf_19 : decode prog_10_method_13_code 19 = .ok (.iload_n 3, 1) := by decide +kernel
theorem d_St_rankOf_20 : decode prog_10_method_13_code 20 = .ok (.iload 4, 2) := by decide +kernel
theorem d_St_rankOf_22 : decode prog_10_method_13_code 22 = .ok (.if_icmp .ge 51, 3) := by decide +kernel
theorem d_St_rankOf_25 : decode prog_10_method_13_code 25 = .ok (.iload_n 3, 1) := by decide +kernel
theorem d_St_rankOf_26 : decode prog_10_method_13_code 26 = .ok (.iload 4, 2) := by decide +kernel
theorem d_St_rankOf_28 : decode prog_10_method_13_code 28 = .ok (.iadd, 1) := by decide +kernel
theorem d_St_rankOf_29 : decode prog_10_method_13_code 29 = .ok (.iconst 2, 1) := by decide +kernel
theorem d_St_rankOf_30 : decode prog_10_method_13_code 30 = .ok (.idiv, 1) := by decide +kernel
theorem d_St_rankOf_31 : decode prog_10_method_13_code 31 = .ok (.istore 6, 2) := by decide +kernel
theorem d_St_rankOf_33 : decode prog_10_method_13_code 33 = .ok (.aload_n 0, 1) := by decide +kernel
theorem d_St_rankOf_34 : decode prog_10_method_13_code 34 = .ok (.getfield 29, 3) := by decide +kernel
theorem d_St_rankOf_37 : decode prog_10_method_13_code 37 = .ok (.aload_n 0, 1) := by decide +kernel
theorem d_St_rankOf_38 : decode prog_10_method_13_code 38 = .ok (.getfield 32, 3) := by decide +kernel
theorem d_St_rankOf_41 : decode prog_10_method_13_code 41 = .ok (.iload 6, 2) := by decide +kernel
theorem d_St_rankOf_43 : decode prog_10_method_13_code 43 = .ok (.iaload, 1) := by decide +kernel
theorem d_St_rankOf_44 : decode prog_10_method_13_code 44 = .ok (.bipush 32, 2) := by decide +kernel
theorem d_St_rankOf_46 : decode prog_10_method_13_code 46 = .ok (.imul, 1) := by decide +kernel
theorem d_St_rankOf_47 : decode prog_10_method_13_code 47 = .ok (.aload_n 1, 1) := by decide +kernel
theorem d_St_rankOf_48 : decode prog_10_method_13_code 48 = .ok (.iload_n 2, 1) := by decide +kernel
theorem d_St_rankOf_49 : decode prog_10_method_13_code 49 = .ok (.invokestatic 105, 3) := by decide +kernel
theorem d_St_rankOf_52 : decode prog_10_method_13_code 52 = .ok (.ifCond .ge 11, 3) := by decide +kernel
theorem d_St_rankOf_55 : decode prog_10_method_13_code 55 = .ok (.iload 6, 2) := by decide +kernel
theorem d_St_rankOf_57 : decode prog_10_method_13_code 57 = .ok (.iconst 1, 1) := by decide +kernel
theorem d_St_rankOf_58 : decode prog_10_method_13_code 58 = .ok (.iadd, 1) := by decide +kernel
theorem d_St_rankOf_59 : decode prog_10_method_13_code 59 = .ok (.istore_n 3, 1) := by decide +kernel
theorem d_St_rankOf_60 : decode prog_10_method_13_code 60 = .ok (.goto 7, 3) := by decide +kernel
theorem d_St_rankOf_63 : decode prog_10_method_13_code 63 = .ok (.iload 6, 2) := by decide +kernel
theorem d_St_rankOf_65 : decode prog_10_method_13_code 65 = .ok (.istore 4, 2) := by decide +kernel
theorem d_St_rankOf_67 : decode prog_10_method_13_code 67 = .ok (.iinc 5 1, 3) := by decide +kernel
theorem d_St_rankOf_70 : decode prog_10_method_13_code 70 = .ok (.goto (-59), 3) := by decide +kernel
theorem d_St_rankOf_73 : decode prog_10_method_13_code 73 = .ok (.iload_n 3, 1) := by decide +kernel
theorem d_St_rankOf_74 : decode prog_10_method_13_code 74 = .ok (.ireturn, 1) := by decide +kernel
/-- the hash of the i-th patch by hash is less than the one at j -/
def hsl (hf g : Nat → Int32) (Bh : Nat → Nat) (j i : Nat) : Prop := bo hf g (Bh i * 32) j 32 < 0
/-- .. its place -/
def rk_ok (hf g : Nat → Int32) (Bh : Nat → Nat) (P j r : Nat) : Prop := r ≤ P ∧ (∀ i, i < r → hsl hf g Bh j i) ∧ ∀ i, r ≤ i → i < P → ¬ hsl hf g Bh j i
set_option maxHeartbeats 4000000 in
set_option maxRecDepth 100000 in
/-- the place of a hash -/
theorem m_St_rank (l : Launch) (dC : Nat → ClassId) (dI : Nat → Nat → Nat) (cI cB cL cZ cR : ClassId) (h hs bh p2 : Nat) (sk_bytes sk_from sk_firstDependency sk_firstChange sk_dependencies sk_leansOn sk_leantBy sk_changes sk_lines : Value) (P j N2 : Nat) (hf bf g : Nat → Int32) (Bh : Nat → Nat) (sz : Nat) (hP5 : P ≤ 500) (gB : ∀ i, i < P → bf i = nI (Bh i) ∧ Bh i ≤ 500) (gM : ∀ i k, i ≤ k → k < P → hsl hf g Bh j k → hsl hf g Bh j i) (hN2 : N2 < 2 ^ 31) (hj : j + 32 ≤ N2) : Met l y_St_rankOf ws_St_rankOf ({ frames := 1, cells := 0, slots := 0, locals := 60 }) (xw_Pc dC dI [(cI, .int), (cB, .byte), (cL, .long), (cZ, .boolean), (cR, .object "PatchStore$Repository")] [.ref h, .ref p2, .int (nI j)] [(h, .inr (9, [sk_bytes, sk_from, sk_firstDependency, sk_firstChange, sk_dependencies, .ref hs, .ref bh, sk_leansOn, sk_leantBy, sk_changes, sk_lines, .int (nI P)])), (hs, .inl (cB, 16032, .inl hf)), (bh, .inl (cI, 500, .inl bf)), (p2, .inl (cB, N2, .inl g))] sz) (va_Qi (fun (r : Int32) (u : Nat) => r = nI u ∧ rk_ok hf g Bh P j u) (fun _ t => xw_B dC dI [(cI, .int), (cB, .byte), (cL, .long), (cZ, .boolean), (cR, .object "PatchStore$Repository")] (va_A [(h, .inr (9, [sk_bytes, sk_from, sk_firstDependency, sk_firstChange, sk_dependencies, .ref hs, .ref bh, sk_leansOn, sk_leantBy, sk_changes, sk_lines, .int (nI P)])), (hs, .inl (cB, 16032, .inl hf)), (bh, .inl (cI, 500, .inl bf)), (p2, .inl (cB, N2, .inl g))] sz) [(h, .inr (9, [sk_bytes, sk_from, sk_firstDependency, sk_firstChange, sk_dependencies, .ref hs, .ref bh, sk_leansOn, sk_leantBy, sk_changes, sk_lines, .int (nI P)])), (hs, .inl (cB, 16032, .inl hf)), (bh, .inl (cI, 500, .inl bf)), (p2, .inl (cB, N2, .inl g))] t) (va_A [(h, .inr (9, [sk_bytes, sk_from, sk_firstDependency, sk_firstChange, sk_dependencies, .ref hs, .ref bh, sk_leansOn, sk_leantBy, sk_changes, sk_lines, .int (nI P)])), (hs, .inl (cB, 16032, .inl hf)), (bh, .inl (cI, 500, .inl bf)), (p2, .inl (cB, N2, .inl g))] sz)) 0 0 (va_A [(h, .inr (9, [sk_bytes, sk_from, sk_firstDependency, sk_firstChange, sk_dependencies, .ref hs, .ref bh, sk_leansOn, sk_leantBy, sk_changes, sk_lines, .int (nI P)])), (hs, .inl (cB, 16032, .inl hf)), (bh, .inl (cI, 500, .inl bf)), (p2, .inl (cB, N2, .inl g))] sz) := by
  refine Met.ofW (cc := prog_10_method_13_code) (maxL := 7) (ret := (Option.some Jvm.ClassFile.FieldType.int)) (by decide) rfl ?_
  intro p e s m args below meth c s₁ B hml hv
  obtain ⟨rfl, hsz, hP, hK, hD0⟩ := hv
  have hx := B.exec
  have hb := B.bytes
  have hr := B.returns
  have hts0 := atoms_spec (ws := ws_St_rankOf) B.pre
  have hts : ∀ w ∈ xg_1, w.before _ s = true := fun w h => hts0 w (List.mem_cons_of_mem _ h)
  have hown : s.vm.findClass "PatchStore$Stock" = some m.cls := findClass_of_methodNamed B.named
  have hlocks := B.notSynchronized
  subst hsz
  have hD := hD0.self (sz := s.heap.size)
  generalize hAe : va_A [(h, .inr (9, [sk_bytes, sk_from, sk_firstDependency, sk_firstChange, sk_dependencies, .ref hs, .ref bh, sk_leansOn, sk_leantBy, sk_changes, sk_lines, .int (nI P)])), (hs, .inl (cB, 16032, .inl hf)), (bh, .inl (cI, 500, .inl bf)), (p2, .inl (cB, N2, .inl g))] s.heap.size = A at hD ⊢
  have hA : ∀ q : Nat, s.heap.size ≤ q → A q := fun q h => by rw [← hAe]; exact Or.inr h
  have hS : va_S A s.heap s.heap [] := va_S.rf
  have hl := lv_entry ([.ref h, .ref p2, .int (nI j)]) (n := 7) (Nat.le_of_ble_eq_true rfl)
  rw [lg_entry_eq]
  generalize (lg_sl ([.ref h, .ref p2, .int (nI j)]) ++ List.replicate (7 - (lg_sl ([.ref h, .ref p2, .int (nI j)])).length) Slot.unset).toArray = ls at hl ⊢
  have hl : lv_has ls 7 [(0, .ref h), (1, .ref p2), (2, .int (nI j))] := hl
  generalize hQe : MQ _ _ _ _ _ _ _ = Q
  refine lv_iconst (v := 0) hx hb d_St_rankOf_0 (by decide) ?_
  refine lv_istore_n (lv' := [(3, .int 0), (0, .ref h), (1, .ref p2), (2, .int (nI j))]) hx hb d_St_rankOf_1 rfl hl (by decide) rfl (fun ls hl => ?_)
  refine lv_aload_n hx hb d_St_rankOf_2 rfl (lv_at hl 1 rfl) ?_
  refine va_get (D := (dC, dI)) (ci := 9) (v := .int (nI P)) (C := R_St) (T := F_St) (N := 12) hx hb hts i_St hown hK hP 0 rfl rfl 11 (by decide) (hts _ gw_235) (fun _ h9 => h9) rfl d_St_rankOf_3 ?_
  refine lv_istore (lv' := [(4, .int (nI P)), (3, .int 0), (0, .ref h), (1, .ref p2), (2, .int (nI j))]) hx hb d_St_rankOf_6 hl (by decide) rfl (fun ls hl => ?_)
  refine lv_iconst (v := 0) hx hb d_St_rankOf_8 (by decide) ?_
  refine lv_istore (lv' := [(5, .int 0), (4, .int (nI P)), (3, .int 0), (0, .ref h), (1, .ref p2), (2, .int (nI j))]) hx hb d_St_rankOf_9 hl (by decide) rfl (fun ls hl => ?_)
  have loop_11 : ∀ (n : Nat) (lo : Nat) (hi : Nat) (st : Nat) (H : Heap) (locs : List Loc) (ls : Array Slot), 500 - st < n → (lo ≤ hi) → (hi ≤ P) → (hi + st ≤ P + lo) → (∀ i, i < lo → hsl hf g Bh j i) → (∀ i, hi ≤ i → i < P → ¬ hsl hf g Bh j i) → va_P (dC, dI) classes [(h, .inr (9, [sk_bytes, sk_from, sk_firstDependency, sk_firstChange, sk_dependencies, .ref hs, .ref bh, sk_leansOn, sk_leantBy, sk_changes, sk_lines, .int (nI P)])), (hs, .inl (cB, 16032, .inl hf)), (bh, .inl (cI, 500, .inl bf)), (p2, .inl (cB, N2, .inl g))] H → va_D A [(h, .inr (9, [sk_bytes, sk_from, sk_firstDependency, sk_firstChange, sk_dependencies, .ref hs, .ref bh, sk_leansOn, sk_leantBy, sk_changes, sk_lines, .int (nI P)])), (hs, .inl (cB, 16032, .inl hf)), (bh, .inl (cI, 500, .inl bf)), (p2, .inl (cB, N2, .inl g))] → va_S A s.heap H locs → lv_has ls 7 [(0, .ref h), (1, .ref p2), (2, .int (nI j)), (3, .int (nI lo)), (4, .int (nI hi)), (5, .int (nI st))] → W p l e (headSpec ws_St_rankOf ({ frames := 1, cells := 0, slots := 0, locals := 60 })).room s m ([.ref h, .ref p2, .int (nI j)] : List Value).toArray below meth c H locs 0 0 Q (F0 m 11 ls []) := by
    intro n
    induction n with
    | zero => intro lo hi st H locs ls hm; exact absurd hm (Nat.not_lt_zero _)
    | succ n ih_11 =>
      intro lo hi st H locs ls hm h1 h2 h3 hL hG hP hD hS hl
      have hs5 : st ≤ 500 := by omega
      refine lv_iload hx hb d_St_rankOf_11 (lv_at hl 5 rfl) ?_
      refine lv_sipush (v := 500) hx hb d_St_rankOf_13 (by decide) ?_
      refine lv_icmp_ge (tgt := 73) hx hb d_St_rankOf_16 (by decide) (fun c_16 => ?_) (fun c_16 => ?_)
      · have hq : lo = hi := by have := (nI_leI (a := 500) (b := st) (by omega) (by omega)).mp c_16; omega
        refine lv_iload_n hx hb d_St_rankOf_73 rfl (lv_at hl 3 rfl) ?_
        rw [← hQe]
        exact W.iret (v := nI lo) hx hb hr (fun t ht hW => ⟨⟨_, lo, rfl, ⟨rfl, by omega, hL, fun i z1 z2 => hG i (by omega) z2⟩, by rw [ht]; exact hP, va_K.moved hW.alike hK, hD⟩, hS.F ht⟩) hS.2.2 d_St_rankOf_74
      · have hs9 : st < 500 := by rcases Nat.lt_or_ge st 500 with z | z; exact z; exact absurd (nI_le (a := 500) z (by omega)) c_16
        refine lv_iload_n hx hb d_St_rankOf_19 rfl (lv_at hl 3 rfl) ?_
        refine lv_iload hx hb d_St_rankOf_20 (lv_at hl 4 rfl) ?_
        refine lv_icmp_ge (tgt := 73) hx hb d_St_rankOf_22 (by decide) (fun c_22 => ?_) (fun c_22 => ?_)
        · have hq : lo = hi := by have := (nI_leI (a := hi) (b := lo) (by omega) (by omega)).mp c_22; omega
          refine lv_iload_n hx hb d_St_rankOf_73 rfl (lv_at hl 3 rfl) ?_
          rw [← hQe]
          exact W.iret (v := nI lo) hx hb hr (fun t ht hW => ⟨⟨_, lo, rfl, ⟨rfl, by omega, hL, fun i z1 z2 => hG i (by omega) z2⟩, by rw [ht]; exact hP, va_K.moved hW.alike hK, hD⟩, hS.F ht⟩) hS.2.2 d_St_rankOf_74
        · have hlt9 : lo < hi := by rcases Nat.lt_or_ge lo hi with z | z; exact z; exact absurd (nI_le z (by omega)) c_22
          obtain ⟨hb1, hb2⟩ := gB ((lo + hi) / 2) (by omega)
          refine lv_iload_n hx hb d_St_rankOf_25 rfl (lv_at hl 3 rfl) ?_
          refine lv_iload hx hb d_St_rankOf_26 (lv_at hl 4 rfl) ?_
          refine lv_iadd hx hb d_St_rankOf_28 ?_
          refine lv_topi (fun x_1 ex_1 => ?_)
          obtain rfl : x_1 = nI (lo + hi) := by rw [ex_1]; first | done | (exact nI_add lo hi)
          refine lv_iconst (v := 2) hx hb d_St_rankOf_29 (by decide) ?_
          refine lv_idiv hx hb d_St_rankOf_30 (by decide) ?_
          refine lv_topi (fun x_2 ex_2 => ?_)
          obtain rfl : x_2 = nI ((lo + hi) / 2) := by rw [ex_2]; first | done | (exact pk_div (d := 2) (by omega) (by omega) (by omega))
          refine lv_istore (lv' := [(6, .int (nI ((lo + hi) / 2))), (0, .ref h), (1, .ref p2), (2, .int (nI j)), (3, .int (nI lo)), (4, .int (nI hi)), (5, .int (nI st))]) hx hb d_St_rankOf_31 hl (by decide) rfl (fun ls hl => ?_)
          refine lv_aload_n hx hb d_St_rankOf_33 rfl (lv_at hl 1 rfl) ?_
          refine va_get (D := (dC, dI)) (ci := 9) (v := .ref hs) (C := R_St) (T := F_St) (N := 12) hx hb hts i_St hown hK hP 0 rfl rfl 5 (by decide) (hts _ gw_204) (fun _ h9 => h9) rfl d_St_rankOf_34 ?_
          refine lv_aload_n hx hb d_St_rankOf_37 rfl (lv_at hl 1 rfl) ?_
          refine va_get (D := (dC, dI)) (ci := 9) (v := .ref bh) (C := R_St) (T := F_St) (N := 12) hx hb hts i_St hown hK hP 0 rfl rfl 6 (by decide) (hts _ gw_209) (fun _ h9 => h9) rfl d_St_rankOf_38 ?_
          refine lv_iload hx hb d_St_rankOf_41 (lv_at hl 0 rfl) ?_
          refine va_iald hx hb hK hP 2 0 rfl rfl (vp_in_nI (by omega) (by omega)) d_St_rankOf_43 ?_
          rw [show (nI ((lo + hi) / 2)).toNatClampNeg = ((lo + hi) / 2) from nI_clamp (by omega)]
          refine lv_topi (fun x_3 ex_3 => ?_)
          obtain rfl : x_3 = nI (Bh ((lo + hi) / 2)) := by rw [ex_3]; first | done | (exact hb1)
          refine lv_bipush (v := 32) hx hb d_St_rankOf_44 (by decide) ?_
          refine lv_imul hx hb d_St_rankOf_46 ?_
          refine lv_topi (fun x_4 ex_4 => ?_)
          obtain rfl : x_4 = nI (Bh ((lo + hi) / 2) * 32) := by rw [ex_4]; first | done | (exact nI_mul _ 32)
          refine lv_aload_n hx hb d_St_rankOf_47 rfl (lv_at hl 2 rfl) ?_
          refine lv_iload_n hx hb d_St_rankOf_48 rfl (lv_at hl 3 rfl) ?_
          have hPc := hP.sub (ws' := [(hs, .inl (cB, 16032, .inl hf)), (p2, .inl (cB, N2, .inl g))]) [1, 3] rfl
          have hDc := hD.sub (ws' := [(hs, .inl (cB, 16032, .inl hf)), (p2, .inl (cB, N2, .inl g))]) [1, 3] (by decide) rfl
          have hFc := va_free (wc := [(hs, .inl (cB, 16032, .inl hf)), (p2, .inl (cB, N2, .inl g))]) hD hS hA [1, 3] rfl
          refine va_calli (va_runS (As := [.ref hs, .int (nI (Bh ((lo + hi) / 2) * 32)), .ref p2, .int (nI j)]) (rest := []) ⟨hx, hb, hml, hown, hts⟩ (m_St_cmp l dC dI cI cB cL cZ cR hs p2 16032 N2 hf g (Bh ((lo + hi) / 2) * 32) j H.size (by decide) hN2 (by omega) (by omega)) ⟨callB_of 4 hts (xg_in gw_780) rfl rfl rfl (hts _ gw_3) (hts _ gw_824) (by decide +kernel) ⟨Nat.le_of_ble_eq_true rfl, Nat.le_of_ble_eq_true rfl⟩, hts _ gw_779⟩ ⟨xw_blind, fun U hU hW => ⟨rfl, by rw [hU], by rw [hU]; exact hPc, va_K.moved hW.alike hK, hDc.weaken (fun _ _ _ _ => trivial)⟩⟩ rfl rfl hl.1 rfl (lv_room (Nat.le_of_ble_eq_true rfl)) d_St_rankOf_49 ⟨Nat.le_of_ble_eq_true rfl, Nat.le_of_ble_eq_true rfl⟩) hS (fun q _ h => hFc q h) hFc (fun r9 u t H1 locs ht hvm hw hB hz1 hk1 hS => ?_)
          obtain ⟨hP1, hK1, hD1⟩ := hB
          rw [ht] at hP1
          obtain ⟨hP, hD⟩ := va_join (wr := [(h, .inr (9, [sk_bytes, sk_from, sk_firstDependency, sk_firstChange, sk_dependencies, .ref hs, .ref bh, sk_leansOn, sk_leantBy, sk_changes, sk_lines, .int (nI P)])), (bh, .inl (cI, 500, .inl bf))]) (w1 := [(hs, .inl (cB, 16032, .inl hf)), (p2, .inl (cB, N2, .inl g))]) hP hD [1, 3] [0, 2] rfl rfl (by decide) (by decide) hk1 hFc hP1 hD1
          generalize H1 = H at hP hS ⊢
          have hP : va_P (dC, dI) classes [(h, .inr (9, [sk_bytes, sk_from, sk_firstDependency, sk_firstChange, sk_dependencies, .ref hs, .ref bh, sk_leansOn, sk_leantBy, sk_changes, sk_lines, .int (nI P)])), (bh, .inl (cI, 500, .inl bf)), (hs, .inl (cB, 16032, .inl hf)), (p2, .inl (cB, N2, .inl g))] H := hP
          have hD : va_D A [(h, .inr (9, [sk_bytes, sk_from, sk_firstDependency, sk_firstChange, sk_dependencies, .ref hs, .ref bh, sk_leansOn, sk_leantBy, sk_changes, sk_lines, .int (nI P)])), (bh, .inl (cI, 500, .inl bf)), (hs, .inl (cB, 16032, .inl hf)), (p2, .inl (cB, N2, .inl g))] := hD
          subst hw
          refine lv_if_ge (tgt := 63) hx hb d_St_rankOf_52 (by decide) (fun c_52 => ?_) (fun c_52 => ?_)
          · have hmid : ¬ hsl hf g Bh j ((lo + hi) / 2) := fun z => absurd c_52 (Int32.not_le.mpr z)
            refine lv_iload hx hb d_St_rankOf_63 (lv_at hl 0 rfl) ?_
            refine lv_istore (lv' := [(4, .int (nI ((lo + hi) / 2))), (6, .int (nI ((lo + hi) / 2))), (0, .ref h), (1, .ref p2), (2, .int (nI j)), (3, .int (nI lo)), (5, .int (nI st))]) hx hb d_St_rankOf_65 hl (by decide) rfl (fun ls hl => ?_)
            refine lv_iinc (v := nI (st + 1)) (lv' := [(5, .int (nI (st + 1))), (4, .int (nI ((lo + hi) / 2))), (6, .int (nI ((lo + hi) / 2))), (0, .ref h), (1, .ref p2), (2, .int (nI j)), (3, .int (nI lo))]) hx hb d_St_rankOf_67 hl (k := 6) rfl (by exact nI_1 st) (by decide) rfl (fun ls hl => ?_)
            refine lv_goto (tgt := 11) hx hb d_St_rankOf_70 (by decide) ?_
            exact ih_11 lo ((lo + hi) / 2) (st + 1) _ _ _ (by omega) (by omega) (by omega) (by omega) (hL) (fun i z1 z2 z3 => hmid (gM _ i z1 z2 z3)) (hP.sub [0, 2, 1, 3] rfl) (hD.sub [0, 2, 1, 3] (by decide) rfl) hS (lv_sub hl [3, 4, 5, 6, 1, 0] rfl)
          · have hmid : hsl hf g Bh j ((lo + hi) / 2) := Int32.not_le.mp c_52
            refine lv_iload hx hb d_St_rankOf_55 (lv_at hl 0 rfl) ?_
            refine lv_iconst (v := 1) hx hb d_St_rankOf_57 (by decide) ?_
            refine lv_iadd hx hb d_St_rankOf_58 ?_
            refine lv_topi (fun x_5 ex_5 => ?_)
            obtain rfl : x_5 = nI (((lo + hi) / 2) + 1) := by rw [ex_5]; first | done | (exact nI_1 _)
            refine lv_istore_n (lv' := [(3, .int (nI (((lo + hi) / 2) + 1))), (6, .int (nI ((lo + hi) / 2))), (0, .ref h), (1, .ref p2), (2, .int (nI j)), (4, .int (nI hi)), (5, .int (nI st))]) hx hb d_St_rankOf_59 rfl hl (by decide) rfl (fun ls hl => ?_)
            refine lv_goto (tgt := 67) hx hb d_St_rankOf_60 (by decide) ?_
            refine lv_iinc (v := nI (st + 1)) (lv' := [(5, .int (nI (st + 1))), (3, .int (nI (((lo + hi) / 2) + 1))), (6, .int (nI ((lo + hi) / 2))), (0, .ref h), (1, .ref p2), (2, .int (nI j)), (4, .int (nI hi))]) hx hb d_St_rankOf_67 hl (k := 6) rfl (by exact nI_1 st) (by decide) rfl (fun ls hl => ?_)
            refine lv_goto (tgt := 11) hx hb d_St_rankOf_70 (by decide) ?_
            exact ih_11 (((lo + hi) / 2) + 1) hi (st + 1) _ _ _ (by omega) (by omega) (by omega) (by omega) (fun i z1 => gM i _ (by omega) (by omega) hmid) (hG) (hP.sub [0, 2, 1, 3] rfl) (hD.sub [0, 2, 1, 3] (by decide) rfl) hS (lv_sub hl [3, 4, 5, 1, 6, 0] rfl)
  exact loop_11 _ 0 P 0 _ _ _ (Nat.lt_succ_self _) (Nat.zero_le _) (Nat.le_refl _) (by omega) (fun i z => absurd z (Nat.not_lt_zero _)) (fun i z1 z2 => absurd z1 (by omega)) hP hD hS (lv_sub hl [3, 4, 5, 2, 1, 0] rfl)
set_option maxHeartbeats 4000000 in
set_option maxRecDepth 100000 in
/-- the place of a hash -/
theorem m_St_ranks (l : Launch) (dC : Nat → ClassId) (dI : Nat → Nat → Nat) (cI cB cL cZ cR : ClassId) (h hs bh : Nat) (sk_bytes sk_from sk_firstDependency sk_firstChange sk_dependencies sk_leansOn sk_leantBy sk_changes sk_lines : Value) (P j : Nat) (hf bf : Nat → Int32) (Bh : Nat → Nat) (sz : Nat) (hP5 : P ≤ 500) (gB : ∀ i, i < P → bf i = nI (Bh i) ∧ Bh i ≤ 500) (gM : ∀ i k, i ≤ k → k < P → hsl hf hf Bh j k → hsl hf hf Bh j i) (hj : j + 32 ≤ 16032) : Met l y_St_rankOf ws_St_rankOf ({ frames := 1, cells := 0, slots := 0, locals := 60 }) (xw_Pc dC dI [(cI, .int), (cB, .byte), (cL, .long), (cZ, .boolean), (cR, .object "PatchStore$Repository")] [.ref h, .ref hs, .int (nI j)] [(h, .inr (9, [sk_bytes, sk_from, sk_firstDependency, sk_firstChange, sk_dependencies, .ref hs, .ref bh, sk_leansOn, sk_leantBy, sk_changes, sk_lines, .int (nI P)])), (hs, .inl (cB, 16032, .inl hf)), (bh, .inl (cI, 500, .inl bf))] sz) (va_Qi (fun (r : Int32) (u : Nat) => r = nI u ∧ rk_ok hf hf Bh P j u) (fun _ t => xw_B dC dI [(cI, .int), (cB, .byte), (cL, .long), (cZ, .boolean), (cR, .object "PatchStore$Repository")] (va_A [(h, .inr (9, [sk_bytes, sk_from, sk_firstDependency, sk_firstChange, sk_dependencies, .ref hs, .ref bh, sk_leansOn, sk_leantBy, sk_changes, sk_lines, .int (nI P)])), (hs, .inl (cB, 16032, .inl hf)), (bh, .inl (cI, 500, .inl bf))] sz) [(h, .inr (9, [sk_bytes, sk_from, sk_firstDependency, sk_firstChange, sk_dependencies, .ref hs, .ref bh, sk_leansOn, sk_leantBy, sk_changes, sk_lines, .int (nI P)])), (hs, .inl (cB, 16032, .inl hf)), (bh, .inl (cI, 500, .inl bf))] t) (va_A [(h, .inr (9, [sk_bytes, sk_from, sk_firstDependency, sk_firstChange, sk_dependencies, .ref hs, .ref bh, sk_leansOn, sk_leantBy, sk_changes, sk_lines, .int (nI P)])), (hs, .inl (cB, 16032, .inl hf)), (bh, .inl (cI, 500, .inl bf))] sz)) 0 0 (va_A [(h, .inr (9, [sk_bytes, sk_from, sk_firstDependency, sk_firstChange, sk_dependencies, .ref hs, .ref bh, sk_leansOn, sk_leantBy, sk_changes, sk_lines, .int (nI P)])), (hs, .inl (cB, 16032, .inl hf)), (bh, .inl (cI, 500, .inl bf))] sz) := by
  refine Met.ofW (cc := prog_10_method_13_code) (maxL := 7) (ret := (Option.some Jvm.ClassFile.FieldType.int)) (by decide) rfl ?_
  intro p e s m args below meth c s₁ B hml hv
  obtain ⟨rfl, hsz, hP, hK, hD0⟩ := hv
  have hx := B.exec
  have hb := B.bytes
  have hr := B.returns
  have hts0 := atoms_spec (ws := ws_St_rankOf) B.pre
  have hts : ∀ w ∈ xg_1, w.before _ s = true := fun w h => hts0 w (List.mem_cons_of_mem _ h)
  have hown : s.vm.findClass "PatchStore$Stock" = some m.cls := findClass_of_methodNamed B.named
  have hlocks := B.notSynchronized
  subst hsz
  have hD := hD0.self (sz := s.heap.size)
  generalize hAe : va_A [(h, .inr (9, [sk_bytes, sk_from, sk_firstDependency, sk_firstChange, sk_dependencies, .ref hs, .ref bh, sk_leansOn, sk_leantBy, sk_changes, sk_lines, .int (nI P)])), (hs, .inl (cB, 16032, .inl hf)), (bh, .inl (cI, 500, .inl bf))] s.heap.size = A at hD ⊢
  have hA : ∀ q : Nat, s.heap.size ≤ q → A q := fun q h => by rw [← hAe]; exact Or.inr h
  have hS : va_S A s.heap s.heap [] := va_S.rf
  have hl := lv_entry ([.ref h, .ref hs, .int (nI j)]) (n := 7) (Nat.le_of_ble_eq_true rfl)
  rw [lg_entry_eq]
  generalize (lg_sl ([.ref h, .ref hs, .int (nI j)]) ++ List.replicate (7 - (lg_sl ([.ref h, .ref hs, .int (nI j)])).length) Slot.unset).toArray = ls at hl ⊢
  have hl : lv_has ls 7 [(0, .ref h), (1, .ref hs), (2, .int (nI j))] := hl
  generalize hQe : MQ _ _ _ _ _ _ _ = Q
  refine lv_iconst (v := 0) hx hb d_St_rankOf_0 (by decide) ?_
  refine lv_istore_n (lv' := [(3, .int 0), (0, .ref h), (1, .ref hs), (2, .int (nI j))]) hx hb d_St_rankOf_1 rfl hl (by decide) rfl (fun ls hl => ?_)
  refine lv_aload_n hx hb d_St_rankOf_2 rfl (lv_at hl 1 rfl) ?_
  refine va_get (D := (dC, dI)) (ci := 9) (v := .int (nI P)) (C := R_St) (T := F_St) (N := 12) hx hb hts i_St hown hK hP 0 rfl rfl 11 (by decide) (hts _ gw_235) (fun _ h9 => h9) rfl d_St_rankOf_3 ?_
  refine lv_istore (lv' := [(4, .int (nI P)), (3, .int 0), (0, .ref h), (1, .ref hs), (2, .int (nI j))]) hx hb d_St_rankOf_6 hl (by decide) rfl (fun ls hl => ?_)
  refine lv_iconst (v := 0) hx hb d_St_rankOf_8 (by decide) ?_
  refine lv_istore (lv' := [(5, .int 0), (4, .int (nI P)), (3, .int 0), (0, .ref h), (1, .ref hs), (2, .int (nI j))]) hx hb d_St_rankOf_9 hl (by decide) rfl (fun ls hl => ?_)
  have loop_11 : ∀ (n : Nat) (lo : Nat) (hi : Nat) (st : Nat) (H : Heap) (locs : List Loc) (ls : Array Slot), 500 - st < n → (lo ≤ hi) → (hi ≤ P) → (hi + st ≤ P + lo) → (∀ i, i < lo → hsl hf hf Bh j i) → (∀ i, hi ≤ i → i < P → ¬ hsl hf hf Bh j i) → va_P (dC, dI) classes [(h, .inr (9, [sk_bytes, sk_from, sk_firstDependency, sk_firstChange, sk_dependencies, .ref hs, .ref bh, sk_leansOn, sk_leantBy, sk_changes, sk_lines, .int (nI P)])), (hs, .inl (cB, 16032, .inl hf)), (bh, .inl (cI, 500, .inl bf))] H → va_D A [(h, .inr (9, [sk_bytes, sk_from, sk_firstDependency, sk_firstChange, sk_dependencies, .ref hs, .ref bh, sk_leansOn, sk_leantBy, sk_changes, sk_lines, .int (nI P)])), (hs, .inl (cB, 16032, .inl hf)), (bh, .inl (cI, 500, .inl bf))] → va_S A s.heap H locs → lv_has ls 7 [(0, .ref h), (1, .ref hs), (2, .int (nI j)), (3, .int (nI lo)), (4, .int (nI hi)), (5, .int (nI st))] → W p l e (headSpec ws_St_rankOf ({ frames := 1, cells := 0, slots := 0, locals := 60 })).room s m ([.ref h, .ref hs, .int (nI j)] : List Value).toArray below meth c H locs 0 0 Q (F0 m 11 ls []) := by
    intro n
    induction n with
    | zero => intro lo hi st H locs ls hm; exact absurd hm (Nat.not_lt_zero _)
    | succ n ih_11 =>
      intro lo hi st H locs ls hm h1 h2 h3 hL hG hP hD hS hl
      have hs5 : st ≤ 500 := by omega
      refine lv_iload hx hb d_St_rankOf_11 (lv_at hl 5 rfl) ?_
      refine lv_sipush (v := 500) hx hb d_St_rankOf_13 (by decide) ?_
      refine lv_icmp_ge (tgt := 73) hx hb d_St_rankOf_16 (by decide) (fun c_16 => ?_) (fun c_16 => ?_)
      · have hq : lo = hi := by have := (nI_leI (a := 500) (b := st) (by omega) (by omega)).mp c_16; omega
        refine lv_iload_n hx hb d_St_rankOf_73 rfl (lv_at hl 3 rfl) ?_
        rw [← hQe]
        exact W.iret (v := nI lo) hx hb hr (fun t ht hW => ⟨⟨_, lo, rfl, ⟨rfl, by omega, hL, fun i z1 z2 => hG i (by omega) z2⟩, by rw [ht]; exact hP, va_K.moved hW.alike hK, hD⟩, hS.F ht⟩) hS.2.2 d_St_rankOf_74
      · have hs9 : st < 500 := by rcases Nat.lt_or_ge st 500 with z | z; exact z; exact absurd (nI_le (a := 500) z (by omega)) c_16
        refine lv_iload_n hx hb d_St_rankOf_19 rfl (lv_at hl 3 rfl) ?_
        refine lv_iload hx hb d_St_rankOf_20 (lv_at hl 4 rfl) ?_
        refine lv_icmp_ge (tgt := 73) hx hb d_St_rankOf_22 (by decide) (fun c_22 => ?_) (fun c_22 => ?_)
        · have hq : lo = hi := by have := (nI_leI (a := hi) (b := lo) (by omega) (by omega)).mp c_22; omega
          refine lv_iload_n hx hb d_St_rankOf_73 rfl (lv_at hl 3 rfl) ?_
          rw [← hQe]
          exact W.iret (v := nI lo) hx hb hr (fun t ht hW => ⟨⟨_, lo, rfl, ⟨rfl, by omega, hL, fun i z1 z2 => hG i (by omega) z2⟩, by rw [ht]; exact hP, va_K.moved hW.alike hK, hD⟩, hS.F ht⟩) hS.2.2 d_St_rankOf_74
        · have hlt9 : lo < hi := by rcases Nat.lt_or_ge lo hi with z | z; exact z; exact absurd (nI_le z (by omega)) c_22
          obtain ⟨hb1, hb2⟩ := gB ((lo + hi) / 2) (by omega)
          refine lv_iload_n hx hb d_St_rankOf_25 rfl (lv_at hl 3 rfl) ?_
          refine lv_iload hx hb d_St_rankOf_26 (lv_at hl 4 rfl) ?_
          refine lv_iadd hx hb d_St_rankOf_28 ?_
          refine lv_topi (fun x_1 ex_1 => ?_)
          obtain rfl : x_1 = nI (lo + hi) := by rw [ex_1]; first | done | (exact nI_add lo hi)
          refine lv_iconst (v := 2) hx hb d_St_rankOf_29 (by decide) ?_
          refine lv_idiv hx hb d_St_rankOf_30 (by decide) ?_
          refine lv_topi (fun x_2 ex_2 => ?_)
          obtain rfl : x_2 = nI ((lo + hi) / 2) := by rw [ex_2]; first | done | (exact pk_div (d := 2) (by omega) (by omega) (by omega))
          refine lv_istore (lv' := [(6, .int (nI ((lo + hi) / 2))), (0, .ref h), (1, .ref hs), (2, .int (nI j)), (3, .int (nI lo)), (4, .int (nI hi)), (5, .int (nI st))]) hx hb d_St_rankOf_31 hl (by decide) rfl (fun ls hl => ?_)
          refine lv_aload_n hx hb d_St_rankOf_33 rfl (lv_at hl 1 rfl) ?_
          refine va_get (D := (dC, dI)) (ci := 9) (v := .ref hs) (C := R_St) (T := F_St) (N := 12) hx hb hts i_St hown hK hP 0 rfl rfl 5 (by decide) (hts _ gw_204) (fun _ h9 => h9) rfl d_St_rankOf_34 ?_
          refine lv_aload_n hx hb d_St_rankOf_37 rfl (lv_at hl 1 rfl) ?_
          refine va_get (D := (dC, dI)) (ci := 9) (v := .ref bh) (C := R_St) (T := F_St) (N := 12) hx hb hts i_St hown hK hP 0 rfl rfl 6 (by decide) (hts _ gw_209) (fun _ h9 => h9) rfl d_St_rankOf_38 ?_
          refine lv_iload hx hb d_St_rankOf_41 (lv_at hl 0 rfl) ?_
          refine va_iald hx hb hK hP 2 0 rfl rfl (vp_in_nI (by omega) (by omega)) d_St_rankOf_43 ?_
          rw [show (nI ((lo + hi) / 2)).toNatClampNeg = ((lo + hi) / 2) from nI_clamp (by omega)]
          refine lv_topi (fun x_3 ex_3 => ?_)
          obtain rfl : x_3 = nI (Bh ((lo + hi) / 2)) := by rw [ex_3]; first | done | (exact hb1)
          refine lv_bipush (v := 32) hx hb d_St_rankOf_44 (by decide) ?_
          refine lv_imul hx hb d_St_rankOf_46 ?_
          refine lv_topi (fun x_4 ex_4 => ?_)
          obtain rfl : x_4 = nI (Bh ((lo + hi) / 2) * 32) := by rw [ex_4]; first | done | (exact nI_mul _ 32)
          refine lv_aload_n hx hb d_St_rankOf_47 rfl (lv_at hl 2 rfl) ?_
          refine lv_iload_n hx hb d_St_rankOf_48 rfl (lv_at hl 3 rfl) ?_
          have hPc := hP.sub (ws' := [(hs, .inl (cB, 16032, .inl hf))]) [1] rfl
          have hDc := hD.sub (ws' := [(hs, .inl (cB, 16032, .inl hf))]) [1] (by decide) rfl
          have hFc := va_free (wc := [(hs, .inl (cB, 16032, .inl hf))]) hD hS hA [1] rfl
          refine va_calli (va_runS (As := [.ref hs, .int (nI (Bh ((lo + hi) / 2) * 32)), .ref hs, .int (nI j)]) (rest := []) ⟨hx, hb, hml, hown, hts⟩ (m_St_cmps l dC dI cI cB cL cZ cR hs 16032 hf (Bh ((lo + hi) / 2) * 32) j H.size (by decide) (by omega) (by omega)) ⟨callB_of 4 hts (xg_in gw_780) rfl rfl rfl (hts _ gw_3) (hts _ gw_824) (by decide +kernel) ⟨Nat.le_of_ble_eq_true rfl, Nat.le_of_ble_eq_true rfl⟩, hts _ gw_779⟩ ⟨xw_blind, fun U hU hW => ⟨rfl, by rw [hU], by rw [hU]; exact hPc, va_K.moved hW.alike hK, hDc.weaken (fun _ _ _ _ => trivial)⟩⟩ rfl rfl hl.1 rfl (lv_room (Nat.le_of_ble_eq_true rfl)) d_St_rankOf_49 ⟨Nat.le_of_ble_eq_true rfl, Nat.le_of_ble_eq_true rfl⟩) hS (fun q _ h => hFc q h) hFc (fun r9 u t H1 locs ht hvm hw hB hz1 hk1 hS => ?_)
          obtain ⟨hP1, hK1, hD1⟩ := hB
          rw [ht] at hP1
          obtain ⟨hP, hD⟩ := va_join (wr := [(h, .inr (9, [sk_bytes, sk_from, sk_firstDependency, sk_firstChange, sk_dependencies, .ref hs, .ref bh, sk_leansOn, sk_leantBy, sk_changes, sk_lines, .int (nI P)])), (bh, .inl (cI, 500, .inl bf))]) (w1 := [(hs, .inl (cB, 16032, .inl hf))]) hP hD [1] [0, 2] rfl rfl (by decide) (by decide) hk1 hFc hP1 hD1
          generalize H1 = H at hP hS ⊢
          have hP : va_P (dC, dI) classes [(h, .inr (9, [sk_bytes, sk_from, sk_firstDependency, sk_firstChange, sk_dependencies, .ref hs, .ref bh, sk_leansOn, sk_leantBy, sk_changes, sk_lines, .int (nI P)])), (bh, .inl (cI, 500, .inl bf)), (hs, .inl (cB, 16032, .inl hf))] H := hP
          have hD : va_D A [(h, .inr (9, [sk_bytes, sk_from, sk_firstDependency, sk_firstChange, sk_dependencies, .ref hs, .ref bh, sk_leansOn, sk_leantBy, sk_changes, sk_lines, .int (nI P)])), (bh, .inl (cI, 500, .inl bf)), (hs, .inl (cB, 16032, .inl hf))] := hD
          subst hw
          refine lv_if_ge (tgt := 63) hx hb d_St_rankOf_52 (by decide) (fun c_52 => ?_) (fun c_52 => ?_)
          · have hmid : ¬ hsl hf hf Bh j ((lo + hi) / 2) := fun z => absurd c_52 (Int32.not_le.mpr z)
            refine lv_iload hx hb d_St_rankOf_63 (lv_at hl 0 rfl) ?_
            refine lv_istore (lv' := [(4, .int (nI ((lo + hi) / 2))), (6, .int (nI ((lo + hi) / 2))), (0, .ref h), (1, .ref hs), (2, .int (nI j)), (3, .int (nI lo)), (5, .int (nI st))]) hx hb d_St_rankOf_65 hl (by decide) rfl (fun ls hl => ?_)
            refine lv_iinc (v := nI (st + 1)) (lv' := [(5, .int (nI (st + 1))), (4, .int (nI ((lo + hi) / 2))), (6, .int (nI ((lo + hi) / 2))), (0, .ref h), (1, .ref hs), (2, .int (nI j)), (3, .int (nI lo))]) hx hb d_St_rankOf_67 hl (k := 6) rfl (by exact nI_1 st) (by decide) rfl (fun ls hl => ?_)
            refine lv_goto (tgt := 11) hx hb d_St_rankOf_70 (by decide) ?_
            exact ih_11 lo ((lo + hi) / 2) (st + 1) _ _ _ (by omega) (by omega) (by omega) (by omega) (hL) (fun i z1 z2 z3 => hmid (gM _ i z1 z2 z3)) (hP.sub [0, 2, 1] rfl) (hD.sub [0, 2, 1] (by decide) rfl) hS (lv_sub hl [3, 4, 5, 6, 1, 0] rfl)
          · have hmid : hsl hf hf Bh j ((lo + hi) / 2) := Int32.not_le.mp c_52
            refine lv_iload hx hb d_St_rankOf_55 (lv_at hl 0 rfl) ?_
            refine lv_iconst (v := 1) hx hb d_St_rankOf_57 (by decide) ?_
            refine lv_iadd hx hb d_St_rankOf_58 ?_
            refine lv_topi (fun x_5 ex_5 => ?_)
            obtain rfl : x_5 = nI (((lo + hi) / 2) + 1) := by rw [ex_5]; first | done | (exact nI_1 _)
            refine lv_istore_n (lv' := [(3, .int (nI (((lo + hi) / 2) + 1))), (6, .int (nI ((lo + hi) / 2))), (0, .ref h), (1, .ref hs), (2, .int (nI j)), (4, .int (nI hi)), (5, .int (nI st))]) hx hb d_St_rankOf_59 rfl hl (by decide) rfl (fun ls hl => ?_)
            refine lv_goto (tgt := 67) hx hb d_St_rankOf_60 (by decide) ?_
            refine lv_iinc (v := nI (st + 1)) (lv' := [(5, .int (nI (st + 1))), (3, .int (nI (((lo + hi) / 2) + 1))), (6, .int (nI ((lo + hi) / 2))), (0, .ref h), (1, .ref hs), (2, .int (nI j)), (4, .int (nI hi))]) hx hb d_St_rankOf_67 hl (k := 6) rfl (by exact nI_1 st) (by decide) rfl (fun ls hl => ?_)
            refine lv_goto (tgt := 11) hx hb d_St_rankOf_70 (by decide) ?_
            exact ih_11 (((lo + hi) / 2) + 1) hi (st + 1) _ _ _ (by omega) (by omega) (by omega) (by omega) (fun i z1 => gM i _ (by omega) (by omega) hmid) (hG) (hP.sub [0, 2, 1] rfl) (hD.sub [0, 2, 1] (by decide) rfl) hS (lv_sub hl [3, 4, 5, 1, 6, 0] rfl)
  exact loop_11 _ 0 P 0 _ _ _ (Nat.lt_succ_self _) (Nat.zero_le _) (Nat.le_refl _) (by omega) (fun i z => absurd z (Nat.not_lt_zero _)) (fun i z1 z2 => absurd z1 (by omega)) hP hD hS (lv_sub hl [3, 4, 5, 2, 1, 0] rfl)
end
