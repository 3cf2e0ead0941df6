/-! 50.stock1.lean.txt -/
theorem gw_88 : (Jvm.Cond.fieldLink "PatchStore$Stock" (66 : Nat) "PatchStore$Changes" "at" "[I") ∈ xg_1 := xg_s1 88 rfl rfl
theorem gw_890 : (Jvm.Cond.instanceMethod ({ cls := "PatchStore$Stock", name := "kind", desc := "(I)I" } : Jvm.MethodName)) ∈ xg_1 := xg_s4 170 rfl rfl
theorem gw_891 : (Jvm.Cond.selects "PatchStore$Stock" ({ cls := "PatchStore$Stock", name := "kind", desc := "(I)I" } : Jvm.MethodName) ({ cls := "PatchStore$Stock", name := "kind", desc := "(I)I" } : Jvm.MethodName)) ∈ xg_1 := xg_s4 171 rfl rfl
theorem gw_892 : (Jvm.Cond.code ({ cls := "PatchStore$Stock", name := "kind", desc := "(I)I" } : Jvm.MethodName) prog_10_method_4_code (2 : Nat) (Option.some Jvm.ClassFile.FieldType.int)) ∈ xg_1 := xg_s4 172 rfl rfl
theorem gw_897 : (Jvm.Cond.methodLink "PatchStore$Stock" (69 : Nat) ({ cls := "PatchStore$Stock", name := "kind", desc := "(I)I" } : Jvm.MethodName)) ∈ xg_1 := xg_s4 177 rfl rfl
theorem gw_898 : (Jvm.Cond.methodLink "PatchStore$Stock" (73 : Nat) ({ cls := "PatchStore$Stock", name := "nameAt", desc := "(I)I" } : Jvm.MethodName)) ∈ xg_1 := xg_s4 178 rfl rfl
theorem gw_899 : (Jvm.Cond.instanceMethod ({ cls := "PatchStore$Stock", name := "nameAt", desc := "(I)I" } : Jvm.MethodName)) ∈ xg_1 := xg_s4 179 rfl rfl
theorem gw_900 : (Jvm.Cond.selects "PatchStore$Stock" ({ cls := "PatchStore$Stock", name := "nameAt", desc := "(I)I" } : Jvm.MethodName) ({ cls := "PatchStore$Stock", name := "nameAt", desc := "(I)I" } : Jvm.MethodName)) ∈ xg_1 := xg_s4 180 rfl rfl
theorem gw_901 : (Jvm.Cond.code ({ cls := "PatchStore$Stock", name := "nameAt", desc := "(I)I" } : Jvm.MethodName) prog_10_method_5_code (3 : Nat) (Option.some Jvm.ClassFile.FieldType.int)) ∈ xg_1 := xg_s4 181 rfl rfl
theorem gw_911 : (Jvm.Cond.instanceMethod ({ cls := "PatchStore$Stock", name := "downAt", desc := "(I)I" } : Jvm.MethodName)) ∈ xg_1 := xg_s4 191 rfl rfl
theorem gw_912 : (Jvm.Cond.selects "PatchStore$Stock" ({ cls := "PatchStore$Stock", name := "downAt", desc := "(I)I" } : Jvm.MethodName) ({ cls := "PatchStore$Stock", name := "downAt", desc := "(I)I" } : Jvm.MethodName)) ∈ xg_1 := xg_s4 192 rfl rfl
theorem gw_913 : (Jvm.Cond.code ({ cls := "PatchStore$Stock", name := "downAt", desc := "(I)I" } : Jvm.MethodName) prog_10_method_7_code (3 : Nat) (Option.some Jvm.ClassFile.FieldType.int)) ∈ xg_1 := xg_s4 193 rfl rfl
theorem gw_922 : (Jvm.Cond.methodLink "PatchStore$Stock" (76 : Nat) ({ cls := "PatchStore$Stock", name := "downAt", desc := "(I)I" } : Jvm.MethodName)) ∈ xg_1 := xg_s4 202 rfl rfl
def y_St_two : MethodName := ⟨"PatchStore$Stock", "two", "(I)I"⟩
abbrev c_St_two : Cond := (Jvm.Cond.code ({ cls := "PatchStore$Stock", name := "two", desc := "(I)I" } : Jvm.MethodName) prog_10_method_3_code (2 : Nat) (Option.some Jvm.ClassFile.FieldType.int))
abbrev ws_St_two : List Cond := c_St_two :: xg_1
theorem d_St_two_0 : decode prog_10_method_3_code 0 = .ok (.aload_n 0, 1) := by decide +kernel
theorem d_St_two_1 : decode prog_10_method_3_code 1 = .ok (.getfield 10, 3) := by decide +kernel
theorem d_St_two_4 : decode prog_10_method_3_code 4 = .ok (.iload_n 1, 1) := by decide +kernel
theorem d_St_two_5 : decode prog_10_method_3_code 5 = .ok (.baload, 1) := by decide +kernel
theorem d_St_two_6 : decode prog_10_method_3_code 6 = .ok (.sipush 255, 3) := by decide +kernel
theorem d_St_two_9 : decode prog_10_method_3_code 9 = .ok (.iand, 1) := by decide +kernel
theorem d_St_two_10 : decode prog_10_method_3_code 10 = .ok (.bipush 8, 2) := by decide +kernel
theorem d_St_two_12 : decode prog_10_method_3_code 12 = .ok (.ishl, 1) := by decide +kernel
theorem d_St_two_13 : decode prog_10_method_3_code 13 = .ok (.aload_n 0, 1) := by decide +kernel
theorem d_St_two_14 : decode prog_10_method_3_code 14 = .ok (.getfield 10, 3) := by decide +kernel
theorem d_St_two_17 : decode prog_10_method_3_code 17 = .ok (.iload_n 1, 1) := by decide +kernel
theorem d_St_two_18 : decode prog_10_method_3_code 18 = .ok (.iconst 1, 1) := by decide +kernel
theorem d_St_two_19 : decode prog_10_method_3_code 19 = .ok (.iadd, 1) := by decide +kernel
theorem d_St_two_20 : decode prog_10_method_3_code 20 = .ok (.baload, 1) := by decide +kernel
theorem d_St_two_21 : decode prog_10_method_3_code 21 = .ok (.sipush 255, 3) := by decide +kernel
theorem d_St_two_24 : decode prog_10_method_3_code 24 = .ok (.iand, 1) := by decide +kernel
theorem d_St_two_25 : decode prog_10_method_3_code 25 = .ok (.ior, 1) := by decide +kernel
theorem d_St_two_26 : decode prog_10_method_3_code 26 = .ok (.ireturn, 1) := by decide +kernel
def y_St_kind : MethodName := ⟨"PatchStore$Stock", "kind", "(I)I"⟩
abbrev c_St_kind : Cond := (Jvm.Cond.code ({ cls := "PatchStore$Stock", name := "kind", desc := "(I)I" } : Jvm.MethodName) prog_10_method_4_code (2 : Nat) (Option.some Jvm.ClassFile.FieldType.int))
abbrev ws_St_kind : List Cond := c_St_kind :: xg_1
theorem d_St_kind_0 : decode prog_10_method_4_code 0 = .ok (.aload_n 0, 1) := by decide +kernel
theorem d_St_kind_1 : decode prog_10_method_4_code 1 = .ok (.getfield 10, 3) := by decide +kernel
theorem d_St_kind_4 : decode prog_10_method_4_code 4 = .ok (.aload_n 0, 1) := by decide +kernel
theorem d_St_kind_5 : decode prog_10_method_4_code 5 = .ok (.getfield 45, 3) := by decide +kernel
theorem d_St_kind_8 : decode prog_10_method_4_code 8 = .ok (.getfield 66, 3) := by decide +kernel
theorem d_St_kind_11 : decode prog_10_method_4_code 11 = .ok (.iload_n 1, 1) := by decide +kernel
theorem d_St_kind_12 : decode prog_10_method_4_code 12 = .ok (.iaload, 1) := by decide +kernel
theorem d_St_kind_13 : decode prog_10_method_4_code 13 = .ok (.baload, 1) := by decide +kernel
theorem d_St_kind_14 : decode prog_10_method_4_code 14 = .ok (.ireturn, 1) := by decide +kernel
def y_St_nameAt : MethodName := ⟨"PatchStore$Stock", "nameAt", "(I)I"⟩
abbrev c_St_nameAt : Cond := (Jvm.Cond.code ({ cls := "PatchStore$Stock", name := "nameAt", desc := "(I)I" } : Jvm.MethodName) prog_10_method_5_code (3 : Nat) (Option.some Jvm.ClassFile.FieldType.int))
abbrev ws_St_nameAt : List Cond := c_St_nameAt :: xg_1
theorem d_St_nameAt_0 : decode prog_10_method_5_code 0 = .ok (.aload_n 0, 1) := by decide +kernel
theorem d_St_nameAt_1 : decode prog_10_method_5_code 1 = .ok (.getfield 45, 3) := by decide +kernel
theorem d_St_nameAt_4 : decode prog_10_method_5_code 4 = .ok (.getfield 66, 3) := by decide +kernel
theorem d_St_nameAt_7 : decode prog_10_method_5_code 7 = .ok (.iload_n 1, 1) := by decide +kernel
theorem d_St_nameAt_8 : decode prog_10_method_5_code 8 = .ok (.iaload, 1) := by decide +kernel
theorem d_St_nameAt_9 : decode prog_10_method_5_code 9 = .ok (.istore_n 2, 1) := by decide +kernel
theorem d_St_nameAt_10 : decode prog_10_method_5_code 10 = .ok (.aload_n 0, 1) := by decide +kernel
theorem d_St_nameAt_11 : decode prog_10_method_5_code 11 = .ok (.getfield 10, 3) := by decide +kernel
theorem d_St_nameAt_14 : decode prog_10_method_5_code 14 = .ok (.iload_n 2, 1) := by decide +kernel
theorem d_St_nameAt_15 : decode prog_10_method_5_code 15 = .ok (.baload, 1) := by decide +kernel
theorem d_St_nameAt_16 : decode prog_10_method_5_code 16 = .ok (.ifCond .ne 9, 3) := by decide +kernel
theorem d_St_nameAt_19 : decode prog_10_method_5_code 19 = .ok (.iload_n 2, 1) := by decide +kernel
theorem d_St_nameAt_20 : decode prog_10_method_5_code 20 = .ok (.iconst 5, 1) := by decide +kernel
theorem d_St_nameAt_21 : decode prog_10_method_5_code 21 = .ok (.iadd, 1) := by decide +kernel
theorem d_St_nameAt_22 : decode prog_10_method_5_code 22 = .ok (.goto 22, 3) := by decide +kernel
theorem d_St_nameAt_25 : decode prog_10_method_5_code 25 = .ok (.iload_n 2, 1) := by decide +kernel
theorem d_St_nameAt_26 : decode prog_10_method_5_code 26 = .ok (.bipush 6, 2) := by decide +kernel
theorem d_St_nameAt_28 : decode prog_10_method_5_code 28 = .ok (.iadd, 1) := by decide +kernel
theorem d_St_nameAt_29 : decode prog_10_method_5_code 29 = .ok (.iconst 4, 1) := by decide +kernel
theorem d_St_nameAt_30 : decode prog_10_method_5_code 30 = .ok (.aload_n 0, 1) := by decide +kernel
theorem d_St_nameAt_31 : decode prog_10_method_5_code 31 = .ok (.getfield 10, 3) := by decide +kernel
theorem d_St_nameAt_34 : decode prog_10_method_5_code 34 = .ok (.iload_n 2, 1) := by decide +kernel
theorem d_St_nameAt_35 : decode prog_10_method_5_code 35 = .ok (.iconst 5, 1) := by decide +kernel
theorem d_St_nameAt_36 : decode prog_10_method_5_code 36 = .ok (.iadd, 1) := by decide +kernel
theorem d_St_nameAt_37 : decode prog_10_method_5_code 37 = .ok (.baload, 1) := by decide +kernel
theorem d_St_nameAt_38 : decode prog_10_method_5_code 38 = .ok (.sipush 255, 3) := by decide +kernel
theorem d_St_nameAt_41 : decode prog_10_method_5_code 41 = .ok (.iand, 1) := by decide +kernel
theorem d_St_nameAt_42 : decode prog_10_method_5_code 42 = .ok (.imul, 1) := by decide +kernel
theorem d_St_nameAt_43 : decode prog_10_method_5_code 43 = .ok (.iadd, 1) := by decide +kernel
theorem d_St_nameAt_44 : decode prog_10_method_5_code 44 = .ok (.ireturn, 1) := by decide +kernel
def y_St_isNaming : MethodName := ⟨"PatchStore$Stock", "isNaming", "(I)Z"⟩
abbrev c_St_isNaming : Cond := (Jvm.Cond.code ({ cls := "PatchStore$Stock", name := "isNaming", desc := "(I)Z" } : Jvm.MethodName) prog_10_method_6_code (3 : Nat) (Option.some Jvm.ClassFile.FieldType.boolean))
abbrev ws_St_isNaming : List Cond := c_St_isNaming :: xg_1
theorem d_St_isNaming_0 : decode prog_10_method_6_code 0 = .ok (.aload_n 0, 1) := by decide +kernel
theorem d_St_isNaming_1 : decode prog_10_method_6_code 1 = .ok (.iload_n 1, 1) := by decide +kernel
theorem d_St_isNaming_2 : decode prog_10_method_6_code 2 = .ok (.invokevirtual 69, 3) := by decide +kernel
theorem d_St_isNaming_5 : decode prog_10_method_6_code 5 = .ok (.istore_n 2, 1) := by decide +kernel
theorem d_St_isNaming_6 : decode prog_10_method_6_code 6 = .ok (.iload_n 2, 1) := by decide +kernel
theorem d_St_isNaming_7 : decode prog_10_method_6_code 7 = .ok (.ifCond .eq 21, 3) := by decide +kernel
theorem d_St_isNaming_10 : decode prog_10_method_6_code 10 = .ok (.iload_n 2, 1) := by decide +kernel
theorem d_St_isNaming_11 : decode prog_10_method_6_code 11 = .ok (.iconst 1, 1) := by decide +kernel
theorem d_St_isNaming_12 : decode prog_10_method_6_code 12 = .ok (.if_icmp .ne 20, 3) := by decide +kernel
theorem d_St_isNaming_15 : decode prog_10_method_6_code 15 = .ok (.aload_n 0, 1) := by decide +kernel
theorem d_St_isNaming_16 : decode prog_10_method_6_code 16 = .ok (.getfield 10, 3) := by decide +kernel
theorem d_St_isNaming_19 : decode prog_10_method_6_code 19 = .ok (.aload_n 0, 1) := by decide +kernel
theorem d_St_isNaming_20 : decode prog_10_method_6_code 20 = .ok (.iload_n 1, 1) := by decide +kernel
theorem d_St_isNaming_21 : decode prog_10_method_6_code 21 = .ok (.invokevirtual 73, 3) := by decide +kernel
theorem d_St_isNaming_24 : decode prog_10_method_6_code 24 = .ok (.baload, 1) := by decide +kernel
theorem d_St_isNaming_25 : decode prog_10_method_6_code 25 = .ok (.ifCond .eq 7, 3) := by decide +kernel
theorem d_St_isNaming_28 : decode prog_10_method_6_code 28 = .ok (.iconst 1, 1) := by decide +kernel
theorem d_St_isNaming_29 : decode prog_10_method_6_code 29 = .ok (.goto 4, 3) := by decide +kernel
theorem d_St_isNaming_32 : decode prog_10_method_6_code 32 = .ok (.iconst 0, 1) := by decide +kernel
theorem d_St_isNaming_33 : decode prog_10_method_6_code 33 = .ok (.ireturn, 1) := by decide +kernel
def y_St_downAt : MethodName := ⟨"PatchStore$Stock", "downAt", "(I)I"⟩
abbrev c_St_downAt : Cond := (Jvm.Cond.code ({ cls := "PatchStore$Stock", name := "downAt", desc := "(I)I" } : Jvm.MethodName) prog_10_method_7_code (3 : Nat) (Option.some Jvm.ClassFile.FieldType.int))
abbrev ws_St_downAt : List Cond := c_St_downAt :: xg_1
theorem d_St_downAt_0 : decode prog_10_method_7_code 0 = .ok (.aload_n 0, 1) := by decide +kernel
theorem d_St_downAt_1 : decode prog_10_method_7_code 1 = .ok (.getfield 45, 3) := by decide +kernel
theorem d_St_downAt_4 : decode prog_10_method_7_code 4 = .ok (.getfield 66, 3) := by decide +kernel
theorem d_St_downAt_7 : decode prog_10_method_7_code 7 = .ok (.iload_n 1, 1) := by decide +kernel
theorem d_St_downAt_8 : decode prog_10_method_7_code 8 = .ok (.iaload, 1) := by decide +kernel
theorem d_St_downAt_9 : decode prog_10_method_7_code 9 = .ok (.iconst 5, 1) := by decide +kernel
theorem d_St_downAt_10 : decode prog_10_method_7_code 10 = .ok (.iadd, 1) := by decide +kernel
theorem d_St_downAt_11 : decode prog_10_method_7_code 11 = .ok (.istore_n 2, 1) := by decide +kernel
theorem d_St_downAt_12 : decode prog_10_method_7_code 12 = .ok (.iload_n 2, 1) := by decide +kernel
theorem d_St_downAt_13 : decode prog_10_method_7_code 13 = .ok (.aload_n 0, 1) := by decide +kernel
theorem d_St_downAt_14 : decode prog_10_method_7_code 14 = .ok (.getfield 10, 3) := by decide +kernel
theorem d_St_downAt_17 : decode prog_10_method_7_code 17 = .ok (.iload_n 2, 1) := by decide +kernel
theorem d_St_downAt_18 : decode prog_10_method_7_code 18 = .ok (.baload, 1) := by decide +kernel
theorem d_St_downAt_19 : decode prog_10_method_7_code 19 = .ok (.ifCond .ne 7, 3) := by decide +kernel
theorem d_St_downAt_22 : decode prog_10_method_7_code 22 = .ok (.iconst 1, 1) := by decide +kernel
theorem d_St_downAt_23 : decode prog_10_method_7_code 23 = .ok (.goto 5, 3) := by decide +kernel
theorem d_St_downAt_26 : decode prog_10_method_7_code 26 = .ok (.bipush 7, 2) := by decide +kernel
theorem d_St_downAt_28 : decode prog_10_method_7_code 28 = .ok (.iadd, 1) := by decide +kernel
theorem d_St_downAt_29 : decode prog_10_method_7_code 29 = .ok (.ireturn, 1) := by decide +kernel
def y_St_linesAt : MethodName := ⟨"PatchStore$Stock", "linesAt", "(I)I"⟩
abbrev c_St_linesAt : Cond := (Jvm.Cond.code ({ cls := "PatchStore$Stock", name := "linesAt", desc := "(I)I" } : Jvm.MethodName) prog_10_method_8_code (3 : Nat) (Option.some Jvm.ClassFile.FieldType.int))
abbrev ws_St_linesAt : List Cond := c_St_linesAt :: xg_1
theorem d_St_linesAt_0 : decode prog_10_method_8_code 0 = .ok (.aload_n 0, 1) := by decide +kernel
theorem d_St_linesAt_1 : decode prog_10_method_8_code 1 = .ok (.iload_n 1, 1) := by decide +kernel
theorem d_St_linesAt_2 : decode prog_10_method_8_code 2 = .ok (.invokevirtual 76, 3) := by decide +kernel
theorem d_St_linesAt_5 : decode prog_10_method_8_code 5 = .ok (.istore_n 2, 1) := by decide +kernel
theorem d_St_linesAt_6 : decode prog_10_method_8_code 6 = .ok (.iload_n 2, 1) := by decide +kernel
theorem d_St_linesAt_7 : decode prog_10_method_8_code 7 = .ok (.aload_n 0, 1) := by decide +kernel
theorem d_St_linesAt_8 : decode prog_10_method_8_code 8 = .ok (.getfield 10, 3) := by decide +kernel
theorem d_St_linesAt_11 : decode prog_10_method_8_code 11 = .ok (.iload_n 2, 1) := by decide +kernel
theorem d_St_linesAt_12 : decode prog_10_method_8_code 12 = .ok (.baload, 1) := by decide +kernel
theorem d_St_linesAt_13 : decode prog_10_method_8_code 13 = .ok (.ifCond .ne 7, 3) := by decide +kernel
theorem d_St_linesAt_16 : decode prog_10_method_8_code 16 = .ok (.iconst 1, 1) := by decide +kernel
theorem d_St_linesAt_17 : decode prog_10_method_8_code 17 = .ok (.goto 5, 3) := by decide +kernel
theorem d_St_linesAt_20 : decode prog_10_method_8_code 20 = .ok (.bipush 7, 2) := by decide +kernel
theorem d_St_linesAt_22 : decode prog_10_method_8_code 22 = .ok (.iadd, 1) := by decide +kernel
theorem d_St_linesAt_23 : decode prog_10_method_8_code 23 = .ok (.ireturn, 1) := by decide +kernel
/-- a byte as a number -/
def b8 (x : Int32) : Nat := x.toBitVec.toNat % 256
theorem b8_lt (x : Int32) : b8 x < 256 := Nat.mod_lt _ (by decide)
theorem nI_bv {n : Nat} (h : n < 2 ^ 32) : (nI n).toBitVec.toNat = n := by
  simp [nI, Int32.toBitVec_ofNat']
  omega
theorem b8_eq (x : Int32) : x &&& 255 = nI (b8 x) := by
  apply Int32.toBitVec_inj.mp
  apply BitVec.eq_of_toNat_eq
  rw [Int32.toBitVec_and, BitVec.toNat_and, nI_bv (by have := b8_lt x; omega)]
  show x.toBitVec.toNat &&& 255 = _
  rw [show (255 : Nat) = 2 ^ 8 - 1 from rfl, Nat.and_two_pow_sub_one_eq_mod]
  rfl
theorem b8_two {a b : Nat} (ha : a < 256) (hb : b < 256) : (nI a <<< (8 &&& 31)) ||| nI b = nI (256 * a + b) := by
  apply Int32.toBitVec_inj.mp
  apply BitVec.eq_of_toNat_eq
  rw [nI_bv (by omega), Int32.toBitVec_or, BitVec.toNat_or, nI_bv (by omega)]
  have h1 : (nI a <<< (8 &&& 31 : Int32)).toBitVec.toNat = a <<< 8 := by
    rw [Int32.toBitVec_shiftLeft]
    rw [show (8 &&& 31 : Int32).toBitVec.smod 32 = 8#32 from by decide]
    rw [BitVec.shiftLeft_eq', BitVec.toNat_shiftLeft, nI_bv (by omega)]
    show a <<< 8 % 2 ^ 32 = a <<< 8
    rw [Nat.shiftLeft_eq]; omega
  rw [h1, ← Nat.shiftLeft_add_eq_or_of_lt (by omega), Nat.shiftLeft_eq]; omega
/-- two bytes as a number -/
def tw (f : Nat → Int32) (k : Nat) : Nat := 256 * b8 (f k) + b8 (f (k + 1))
theorem tw_lt (f : Nat → Int32) (k : Nat) : tw f k < 65536 := by
  have h1 := b8_lt (f k)
  have h2 := b8_lt (f (k + 1))
  unfold tw; omega
theorem nI_mul (a b : Nat) : nI a * nI b = nI (a * b) := (Int32.ofNat_mul a b).symm

/-- where the length of a name stands, in a change at a -/
def nmAt (f : Nat → Int32) (a : Nat) : Nat := if f a = 0 then a + 5 else a + 6 + 4 * b8 (f (a + 5))
/-- whether the change at a gives a name -/
def isNm (f : Nat → Int32) (a : Nat) : Prop := f a = 0 ∨ (f a = 1 ∧ ¬ f (nmAt f a) = 0)
/-- behind an up or down -/
def plEnd (f : Nat → Int32) (a : Nat) : Nat := if f a = 0 then a + 1 else a + 7
theorem plEnd_z {f : Nat → Int32} {a : Nat} (h : f a = 0) : plEnd f a = a + 1 := if_pos h
theorem plEnd_n {f : Nat → Int32} {a : Nat} (h : ¬ f a = 0) : plEnd f a = a + 7 := if_neg h
set_option maxHeartbeats 4000000 in
set_option maxRecDepth 100000 in
/-- two bytes of the stock -/
theorem m_St_two (l : Launch) (dC : Nat → ClassId) (dI : Nat → Nat → Nat) (cI cB cL cZ cR : ClassId) (h b_y : Nat) (sk_from sk_firstDependency sk_firstChange sk_dependencies sk_hashes sk_byHash sk_leansOn sk_leantBy sk_changes sk_lines sk_patches : Value) (f : Nat → Int32) (k : Nat) (sz : Nat) (hk : k + 1 < 290000) : Met l y_St_two ws_St_two ({ frames := 0, cells := 0, slots := 0, locals := 0 }) (xw_Pc dC dI [(cI, .int), (cB, .byte), (cL, .long), (cZ, .boolean), (cR, .object "PatchStore$Repository")] [.ref h, .int (nI k)] [(h, .inr (9, [.ref b_y, sk_from, sk_firstDependency, sk_firstChange, sk_dependencies, sk_hashes, sk_byHash, sk_leansOn, sk_leantBy, sk_changes, sk_lines, sk_patches])), (b_y, .inl (cB, 290000, .inl f))] sz) (va_Qi (fun (r : Int32) (_ : Unit) => r = nI (tw f k)) (fun _ t => xw_B dC dI [(cI, .int), (cB, .byte), (cL, .long), (cZ, .boolean), (cR, .object "PatchStore$Repository")] (va_A [(h, .inr (9, [.ref b_y, sk_from, sk_firstDependency, sk_firstChange, sk_dependencies, sk_hashes, sk_byHash, sk_leansOn, sk_leantBy, sk_changes, sk_lines, sk_patches])), (b_y, .inl (cB, 290000, .inl f))] sz) [(h, .inr (9, [.ref b_y, sk_from, sk_firstDependency, sk_firstChange, sk_dependencies, sk_hashes, sk_byHash, sk_leansOn, sk_leantBy, sk_changes, sk_lines, sk_patches])), (b_y, .inl (cB, 290000, .inl f))] t) (va_A [(h, .inr (9, [.ref b_y, sk_from, sk_firstDependency, sk_firstChange, sk_dependencies, sk_hashes, sk_byHash, sk_leansOn, sk_leantBy, sk_changes, sk_lines, sk_patches])), (b_y, .inl (cB, 290000, .inl f))] sz)) 0 0 (va_A [(h, .inr (9, [.ref b_y, sk_from, sk_firstDependency, sk_firstChange, sk_dependencies, sk_hashes, sk_byHash, sk_leansOn, sk_leantBy, sk_changes, sk_lines, sk_patches])), (b_y, .inl (cB, 290000, .inl f))] sz) := by
  refine Met.ofW (cc := prog_10_method_3_code) (maxL := 2) (ret := (Option.some Jvm.ClassFile.FieldType.int)) (by decide) rfl ?_
  intro p e s m args below meth c s₁ B hml hv
  obtain ⟨rfl, hsz, hP, hK, hD0⟩ := hv
  have hx := B.exec
  have hb := B.bytes
  have hr := B.returns
  have hts0 := atoms_spec (ws := ws_St_two) B.pre
  have hts : ∀ w ∈ xg_1, w.before _ s = true := fun w h => hts0 w (List.mem_cons_of_mem _ h)
  have hown : s.vm.findClass "PatchStore$Stock" = some m.cls := findClass_of_methodNamed B.named
  have hlocks := B.notSynchronized
  subst hsz
  have hD := hD0.self (sz := s.heap.size)
  generalize hAe : va_A [(h, .inr (9, [.ref b_y, sk_from, sk_firstDependency, sk_firstChange, sk_dependencies, sk_hashes, sk_byHash, sk_leansOn, sk_leantBy, sk_changes, sk_lines, sk_patches])), (b_y, .inl (cB, 290000, .inl f))] s.heap.size = A at hD ⊢
  have hA : ∀ q : Nat, s.heap.size ≤ q → A q := fun q h => by rw [← hAe]; exact Or.inr h
  have hS : va_S A s.heap s.heap [] := va_S.rf
  have hl := lv_entry ([.ref h, .int (nI k)]) (n := 2) (Nat.le_of_ble_eq_true rfl)
  rw [lg_entry_eq]
  generalize (lg_sl ([.ref h, .int (nI k)]) ++ List.replicate (2 - (lg_sl ([.ref h, .int (nI k)])).length) Slot.unset).toArray = ls at hl ⊢
  have hl : lv_has ls 2 [(0, .ref h), (1, .int (nI k))] := hl
  refine lv_aload_n hx hb d_St_two_0 rfl (lv_at hl 0 rfl) ?_
  refine va_get (D := (dC, dI)) (ci := 9) (v := .ref b_y) (C := R_St) (T := F_St) (N := 12) hx hb hts i_St hown hK hP 0 rfl rfl 0 (by decide) (hts _ gw_182) (fun _ h9 => h9) rfl d_St_two_1 ?_
  refine lv_iload_n hx hb d_St_two_4 rfl (lv_at hl 1 rfl) ?_
  refine va_bald hx hb hK hP 1 1 rfl rfl (vp_in_nI (by omega) (by omega)) d_St_two_5 ?_
  rw [show (nI k).toNatClampNeg = k from nI_clamp (by omega)]
  refine lv_sipush (v := 255) hx hb d_St_two_6 (by decide) ?_
  refine lv_iand hx hb d_St_two_9 ?_
  refine lv_topi (fun x_1 ex_1 => ?_)
  obtain rfl : x_1 = nI (b8 (f k)) := by rw [ex_1]; first | done | (exact b8_eq _)
  refine lv_bipush (v := 8) hx hb d_St_two_10 (by decide) ?_
  refine lv_ishl hx hb d_St_two_12 ?_
  refine lv_aload_n hx hb d_St_two_13 rfl (lv_at hl 0 rfl) ?_
  refine va_get (D := (dC, dI)) (ci := 9) (v := .ref b_y) (C := R_St) (T := F_St) (N := 12) hx hb hts i_St hown hK hP 0 rfl rfl 0 (by decide) (hts _ gw_182) (fun _ h9 => h9) rfl d_St_two_14 ?_
  refine lv_iload_n hx hb d_St_two_17 rfl (lv_at hl 1 rfl) ?_
  refine lv_iconst (v := 1) hx hb d_St_two_18 (by decide) ?_
  refine lv_iadd hx hb d_St_two_19 ?_
  refine lv_topi (fun x_2 ex_2 => ?_)
  obtain rfl : x_2 = nI (k + 1) := by rw [ex_2]; first | done | (exact nI_1 k)
  refine va_bald hx hb hK hP 1 1 rfl rfl (vp_in_nI (by omega) (by omega)) d_St_two_20 ?_
  rw [show (nI (k + 1)).toNatClampNeg = (k + 1) from nI_clamp (by omega)]
  refine lv_sipush (v := 255) hx hb d_St_two_21 (by decide) ?_
  refine lv_iand hx hb d_St_two_24 ?_
  refine lv_topi (fun x_3 ex_3 => ?_)
  obtain rfl : x_3 = nI (b8 (f (k + 1))) := by rw [ex_3]; first | done | (exact b8_eq _)
  refine lv_ior hx hb d_St_two_25 ?_
  refine lv_topi (fun x_4 ex_4 => ?_)
  obtain rfl : x_4 = nI (tw f k) := by rw [ex_4]; first | done | (exact b8_two (b8_lt _) (b8_lt _))
  exact W.iret (v := nI (tw f k)) hx hb hr (fun t ht hW => ⟨⟨_, (), rfl, rfl, by rw [ht]; exact hP, va_K.moved hW.alike hK, hD⟩, hS.F ht⟩) hS.2.2 d_St_two_26
set_option maxHeartbeats 4000000 in
set_option maxRecDepth 100000 in
/-- the kind of a change -/
theorem m_St_kind (l : Launch) (dC : Nat → ClassId) (dI : Nat → Nat → Nat) (cI cB cL cZ cR : ClassId) (h b_y ch cat : Nat) (sk_from sk_firstDependency sk_firstChange sk_dependencies sk_hashes sk_byHash sk_leansOn sk_leantBy sk_lines sk_patches ch_patch ch_file ch_firstLine ch_adds ch_files : Value) (f ca : Nat → Int32) (k a : Nat) (sz : Nat) (hk : k < 38000) (hca : ca k = nI a) (ha : a < 290000) : Met l y_St_kind ws_St_kind ({ frames := 0, cells := 0, slots := 0, locals := 0 }) (xw_Pc dC dI [(cI, .int), (cB, .byte), (cL, .long), (cZ, .boolean), (cR, .object "PatchStore$Repository")] [.ref h, .int (nI k)] [(h, .inr (9, [.ref b_y, sk_from, sk_firstDependency, sk_firstChange, sk_dependencies, sk_hashes, sk_byHash, sk_leansOn, sk_leantBy, .ref ch, sk_lines, sk_patches])), (b_y, .inl (cB, 290000, .inl f)), (ch, .inr (1, [.ref cat, ch_patch, ch_file, ch_firstLine, ch_adds, ch_files])), (cat, .inl (cI, 38000, .inl ca))] sz) (va_Qi (fun (r : Int32) (_ : Unit) => r = f a) (fun _ t => xw_B dC dI [(cI, .int), (cB, .byte), (cL, .long), (cZ, .boolean), (cR, .object "PatchStore$Repository")] (va_A [(h, .inr (9, [.ref b_y, sk_from, sk_firstDependency, sk_firstChange, sk_dependencies, sk_hashes, sk_byHash, sk_leansOn, sk_leantBy, .ref ch, sk_lines, sk_patches])), (b_y, .inl (cB, 290000, .inl f)), (ch, .inr (1, [.ref cat, ch_patch, ch_file, ch_firstLine, ch_adds, ch_files])), (cat, .inl (cI, 38000, .inl ca))] sz) [(h, .inr (9, [.ref b_y, sk_from, sk_firstDependency, sk_firstChange, sk_dependencies, sk_hashes, sk_byHash, sk_leansOn, sk_leantBy, .ref ch, sk_lines, sk_patches])), (b_y, .inl (cB, 290000, .inl f)), (ch, .inr (1, [.ref cat, ch_patch, ch_file, ch_firstLine, ch_adds, ch_files])), (cat, .inl (cI, 38000, .inl ca))] t) (va_A [(h, .inr (9, [.ref b_y, sk_from, sk_firstDependency, sk_firstChange, sk_dependencies, sk_hashes, sk_byHash, sk_leansOn, sk_leantBy, .ref ch, sk_lines, sk_patches])), (b_y, .inl (cB, 290000, .inl f)), (ch, .inr (1, [.ref cat, ch_patch, ch_file, ch_firstLine, ch_adds, ch_files])), (cat, .inl (cI, 38000, .inl ca))] sz)) 0 0 (va_A [(h, .inr (9, [.ref b_y, sk_from, sk_firstDependency, sk_firstChange, sk_dependencies, sk_hashes, sk_byHash, sk_leansOn, sk_leantBy, .ref ch, sk_lines, sk_patches])), (b_y, .inl (cB, 290000, .inl f)), (ch, .inr (1, [.ref cat, ch_patch, ch_file, ch_firstLine, ch_adds, ch_files])), (cat, .inl (cI, 38000, .inl ca))] sz) := by
  refine Met.ofW (cc := prog_10_method_4_code) (maxL := 2) (ret := (Option.some Jvm.ClassFile.FieldType.int)) (by decide) rfl ?_
  intro p e s m args below meth c s₁ B hml hv
  obtain ⟨rfl, hsz, hP, hK, hD0⟩ := hv
  have hx := B.exec
  have hb := B.bytes
  have hr := B.returns
  have hts0 := atoms_spec (ws := ws_St_kind) B.pre
  have hts : ∀ w ∈ xg_1, w.before _ s = true := fun w h => hts0 w (List.mem_cons_of_mem _ h)
  have hown : s.vm.findClass "PatchStore$Stock" = some m.cls := findClass_of_methodNamed B.named
  have hlocks := B.notSynchronized
  subst hsz
  have hD := hD0.self (sz := s.heap.size)
  generalize hAe : va_A [(h, .inr (9, [.ref b_y, sk_from, sk_firstDependency, sk_firstChange, sk_dependencies, sk_hashes, sk_byHash, sk_leansOn, sk_leantBy, .ref ch, sk_lines, sk_patches])), (b_y, .inl (cB, 290000, .inl f)), (ch, .inr (1, [.ref cat, ch_patch, ch_file, ch_firstLine, ch_adds, ch_files])), (cat, .inl (cI, 38000, .inl ca))] s.heap.size = A at hD ⊢
  have hA : ∀ q : Nat, s.heap.size ≤ q → A q := fun q h => by rw [← hAe]; exact Or.inr h
  have hS : va_S A s.heap s.heap [] := va_S.rf
  have hl := lv_entry ([.ref h, .int (nI k)]) (n := 2) (Nat.le_of_ble_eq_true rfl)
  rw [lg_entry_eq]
  generalize (lg_sl ([.ref h, .int (nI k)]) ++ List.replicate (2 - (lg_sl ([.ref h, .int (nI k)])).length) Slot.unset).toArray = ls at hl ⊢
  have hl : lv_has ls 2 [(0, .ref h), (1, .int (nI k))] := hl
  refine lv_aload_n hx hb d_St_kind_0 rfl (lv_at hl 0 rfl) ?_
  refine va_get (D := (dC, dI)) (ci := 9) (v := .ref b_y) (C := R_St) (T := F_St) (N := 12) hx hb hts i_St hown hK hP 0 rfl rfl 0 (by decide) (hts _ gw_182) (fun _ h9 => h9) rfl d_St_kind_1 ?_
  refine lv_aload_n hx hb d_St_kind_4 rfl (lv_at hl 0 rfl) ?_
  refine va_get (D := (dC, dI)) (ci := 9) (v := .ref ch) (C := R_St) (T := F_St) (N := 12) hx hb hts i_St hown hK hP 0 rfl rfl 9 (by decide) (hts _ gw_224) (fun _ h9 => h9) rfl d_St_kind_5 ?_
  refine va_get (D := (dC, dI)) (ci := 1) (v := .ref cat) (C := R_Ch) (T := F_Ch) (N := 6) hx hb hts i_Ch hown hK hP 2 rfl rfl 0 (by decide) (hts _ gw_88) (fun _ h9 => h9) rfl d_St_kind_8 ?_
  refine lv_iload_n hx hb d_St_kind_11 rfl (lv_at hl 1 rfl) ?_
  refine va_iald hx hb hK hP 3 0 rfl rfl (vp_in_nI (by omega) (by omega)) d_St_kind_12 ?_
  rw [show (nI k).toNatClampNeg = k from nI_clamp (by omega)]
  refine lv_topi (fun x_1 ex_1 => ?_)
  obtain rfl : x_1 = nI a := by rw [ex_1]; first | done | (exact hca)
  refine va_bald hx hb hK hP 1 1 rfl rfl (vp_in_nI (by omega) (by omega)) d_St_kind_13 ?_
  rw [show (nI a).toNatClampNeg = a from nI_clamp (by omega)]
  exact W.iret (v := f a) hx hb hr (fun t ht hW => ⟨⟨_, (), rfl, rfl, by rw [ht]; exact hP, va_K.moved hW.alike hK, hD⟩, hS.F ht⟩) hS.2.2 d_St_kind_14
set_option maxHeartbeats 4000000 in
set_option maxRecDepth 100000 in
/-- where the name of a change stands -/
theorem m_St_nameAt (l : Launch) (dC : Nat → ClassId) (dI : Nat → Nat → Nat) (cI cB cL cZ cR : ClassId) (h b_y ch cat : Nat) (sk_from sk_firstDependency sk_firstChange sk_dependencies sk_hashes sk_byHash sk_leansOn sk_leantBy sk_lines sk_patches ch_patch ch_file ch_firstLine ch_adds ch_files : Value) (f ca : Nat → Int32) (k a : Nat) (sz : Nat) (hk : k < 38000) (hca : ca k = nI a) (ha : a + 5 < 290000) : Met l y_St_nameAt ws_St_nameAt ({ frames := 0, cells := 0, slots := 0, locals := 0 }) (xw_Pc dC dI [(cI, .int), (cB, .byte), (cL, .long), (cZ, .boolean), (cR, .object "PatchStore$Repository")] [.ref h, .int (nI k)] [(h, .inr (9, [.ref b_y, sk_from, sk_firstDependency, sk_firstChange, sk_dependencies, sk_hashes, sk_byHash, sk_leansOn, sk_leantBy, .ref ch, sk_lines, sk_patches])), (b_y, .inl (cB, 290000, .inl f)), (ch, .inr (1, [.ref cat, ch_patch, ch_file, ch_firstLine, ch_adds, ch_files])), (cat, .inl (cI, 38000, .inl ca))] sz) (va_Qi (fun (r : Int32) (_ : Unit) => r = nI (nmAt f a)) (fun _ t => xw_B dC dI [(cI, .int), (cB, .byte), (cL, .long), (cZ, .boolean), (cR, .object "PatchStore$Repository")] (va_A [(h, .inr (9, [.ref b_y, sk_from, sk_firstDependency, sk_firstChange, sk_dependencies, sk_hashes, sk_byHash, sk_leansOn, sk_leantBy, .ref ch, sk_lines, sk_patches])), (b_y, .inl (cB, 290000, .inl f)), (ch, .inr (1, [.ref cat, ch_patch, ch_file, ch_firstLine, ch_adds, ch_files])), (cat, .inl (cI, 38000, .inl ca))] sz) [(h, .inr (9, [.ref b_y, sk_from, sk_firstDependency, sk_firstChange, sk_dependencies, sk_hashes, sk_byHash, sk_leansOn, sk_leantBy, .ref ch, sk_lines, sk_patches])), (b_y, .inl (cB, 290000, .inl f)), (ch, .inr (1, [.ref cat, ch_patch, ch_file, ch_firstLine, ch_adds, ch_files])), (cat, .inl (cI, 38000, .inl ca))] t) (va_A [(h, .inr (9, [.ref b_y, sk_from, sk_firstDependency, sk_firstChange, sk_dependencies, sk_hashes, sk_byHash, sk_leansOn, sk_leantBy, .ref ch, sk_lines, sk_patches])), (b_y, .inl (cB, 290000, .inl f)), (ch, .inr (1, [.ref cat, ch_patch, ch_file, ch_firstLine, ch_adds, ch_files])), (cat, .inl (cI, 38000, .inl ca))] sz)) 0 0 (va_A [(h, .inr (9, [.ref b_y, sk_from, sk_firstDependency, sk_firstChange, sk_dependencies, sk_hashes, sk_byHash, sk_leansOn, sk_leantBy, .ref ch, sk_lines, sk_patches])), (b_y, .inl (cB, 290000, .inl f)), (ch, .inr (1, [.ref cat, ch_patch, ch_file, ch_firstLine, ch_adds, ch_files])), (cat, .inl (cI, 38000, .inl ca))] sz) := by
  refine Met.ofW (cc := prog_10_method_5_code) (maxL := 3) (ret := (Option.some Jvm.ClassFile.FieldType.int)) (by decide) rfl ?_
  intro p e s m args below meth c s₁ B hml hv
  obtain ⟨rfl, hsz, hP, hK, hD0⟩ := hv
  have hx := B.exec
  have hb := B.bytes
  have hr := B.returns
  have hts0 := atoms_spec (ws := ws_St_nameAt) B.pre
  have hts : ∀ w ∈ xg_1, w.before _ s = true := fun w h => hts0 w (List.mem_cons_of_mem _ h)
  have hown : s.vm.findClass "PatchStore$Stock" = some m.cls := findClass_of_methodNamed B.named
  have hlocks := B.notSynchronized
  subst hsz
  have hD := hD0.self (sz := s.heap.size)
  generalize hAe : va_A [(h, .inr (9, [.ref b_y, sk_from, sk_firstDependency, sk_firstChange, sk_dependencies, sk_hashes, sk_byHash, sk_leansOn, sk_leantBy, .ref ch, sk_lines, sk_patches])), (b_y, .inl (cB, 290000, .inl f)), (ch, .inr (1, [.ref cat, ch_patch, ch_file, ch_firstLine, ch_adds, ch_files])), (cat, .inl (cI, 38000, .inl ca))] s.heap.size = A at hD ⊢
  have hA : ∀ q : Nat, s.heap.size ≤ q → A q := fun q h => by rw [← hAe]; exact Or.inr h
  have hS : va_S A s.heap s.heap [] := va_S.rf
  have hl := lv_entry ([.ref h, .int (nI k)]) (n := 3) (Nat.le_of_ble_eq_true rfl)
  rw [lg_entry_eq]
  generalize (lg_sl ([.ref h, .int (nI k)]) ++ List.replicate (3 - (lg_sl ([.ref h, .int (nI k)])).length) Slot.unset).toArray = ls at hl ⊢
  have hl : lv_has ls 3 [(0, .ref h), (1, .int (nI k))] := hl
  refine lv_aload_n hx hb d_St_nameAt_0 rfl (lv_at hl 0 rfl) ?_
  refine va_get (D := (dC, dI)) (ci := 9) (v := .ref ch) (C := R_St) (T := F_St) (N := 12) hx hb hts i_St hown hK hP 0 rfl rfl 9 (by decide) (hts _ gw_224) (fun _ h9 => h9) rfl d_St_nameAt_1 ?_
  refine va_get (D := (dC, dI)) (ci := 1) (v := .ref cat) (C := R_Ch) (T := F_Ch) (N := 6) hx hb hts i_Ch hown hK hP 2 rfl rfl 0 (by decide) (hts _ gw_88) (fun _ h9 => h9) rfl d_St_nameAt_4 ?_
  refine lv_iload_n hx hb d_St_nameAt_7 rfl (lv_at hl 1 rfl) ?_
  refine va_iald hx hb hK hP 3 0 rfl rfl (vp_in_nI (by omega) (by omega)) d_St_nameAt_8 ?_
  rw [show (nI k).toNatClampNeg = k from nI_clamp (by omega)]
  refine lv_topi (fun x_1 ex_1 => ?_)
  obtain rfl : x_1 = nI a := by rw [ex_1]; first | done | (exact hca)
  refine lv_istore_n (lv' := [(2, .int (nI a)), (0, .ref h), (1, .int (nI k))]) hx hb d_St_nameAt_9 rfl hl (by decide) rfl (fun ls hl => ?_)
  refine lv_aload_n hx hb d_St_nameAt_10 rfl (lv_at hl 1 rfl) ?_
  refine va_get (D := (dC, dI)) (ci := 9) (v := .ref b_y) (C := R_St) (T := F_St) (N := 12) hx hb hts i_St hown hK hP 0 rfl rfl 0 (by decide) (hts _ gw_182) (fun _ h9 => h9) rfl d_St_nameAt_11 ?_
  refine lv_iload_n hx hb d_St_nameAt_14 rfl (lv_at hl 0 rfl) ?_
  refine va_bald hx hb hK hP 1 1 rfl rfl (vp_in_nI (by omega) (by omega)) d_St_nameAt_15 ?_
  rw [show (nI a).toNatClampNeg = a from nI_clamp (by omega)]
  refine lv_if_ne (tgt := 25) hx hb d_St_nameAt_16 (by decide) (fun c_16 => ?_) (fun c_16 => ?_)
  · have c9 : ¬ f a = 0 := c_16
    refine lv_iload_n hx hb d_St_nameAt_25 rfl (lv_at hl 0 rfl) ?_
    refine lv_bipush (v := 6) hx hb d_St_nameAt_26 (by decide) ?_
    refine lv_iadd hx hb d_St_nameAt_28 ?_
    refine lv_topi (fun x_2 ex_2 => ?_)
    obtain rfl : x_2 = nI (a + 6) := by rw [ex_2]; first | done | (exact nI_add a 6)
    refine lv_iconst (v := 4) hx hb d_St_nameAt_29 (by decide) ?_
    refine lv_aload_n hx hb d_St_nameAt_30 rfl (lv_at hl 1 rfl) ?_
    refine va_get (D := (dC, dI)) (ci := 9) (v := .ref b_y) (C := R_St) (T := F_St) (N := 12) hx hb hts i_St hown hK hP 0 rfl rfl 0 (by decide) (hts _ gw_182) (fun _ h9 => h9) rfl d_St_nameAt_31 ?_
    refine lv_iload_n hx hb d_St_nameAt_34 rfl (lv_at hl 0 rfl) ?_
    refine lv_iconst (v := 5) hx hb d_St_nameAt_35 (by decide) ?_
    refine lv_iadd hx hb d_St_nameAt_36 ?_
    refine lv_topi (fun x_3 ex_3 => ?_)
    obtain rfl : x_3 = nI (a + 5) := by rw [ex_3]; first | done | (exact nI_add a 5)
    refine va_bald hx hb hK hP 1 1 rfl rfl (vp_in_nI (by omega) (by omega)) d_St_nameAt_37 ?_
    rw [show (nI (a + 5)).toNatClampNeg = (a + 5) from nI_clamp (by omega)]
    refine lv_sipush (v := 255) hx hb d_St_nameAt_38 (by decide) ?_
    refine lv_iand hx hb d_St_nameAt_41 ?_
    refine lv_topi (fun x_4 ex_4 => ?_)
    obtain rfl : x_4 = nI (b8 (f (a + 5))) := by rw [ex_4]; first | done | (exact b8_eq _)
    refine lv_imul hx hb d_St_nameAt_42 ?_
    refine lv_topi (fun x_5 ex_5 => ?_)
    obtain rfl : x_5 = nI (4 * b8 (f (a + 5))) := by rw [ex_5]; first | done | (exact nI_mul 4 _)
    refine lv_iadd hx hb d_St_nameAt_43 ?_
    refine lv_topi (fun x_6 ex_6 => ?_)
    obtain rfl : x_6 = nI (a + 6 + 4 * b8 (f (a + 5))) := by rw [ex_6]; first | done | (exact nI_add _ _)
    exact W.iret (v := nI (a + 6 + 4 * b8 (f (a + 5)))) hx hb hr (fun t ht hW => ⟨⟨_, (), rfl, by unfold nmAt; rw [if_neg c9], by rw [ht]; exact hP, va_K.moved hW.alike hK, hD⟩, hS.F ht⟩) hS.2.2 d_St_nameAt_44
  · have c9 : f a = 0 := c_16
    refine lv_iload_n hx hb d_St_nameAt_19 rfl (lv_at hl 0 rfl) ?_
    refine lv_iconst (v := 5) hx hb d_St_nameAt_20 (by decide) ?_
    refine lv_iadd hx hb d_St_nameAt_21 ?_
    refine lv_topi (fun x_7 ex_7 => ?_)
    obtain rfl : x_7 = nI (a + 5) := by rw [ex_7]; first | done | (exact nI_add a 5)
    refine lv_goto (tgt := 44) hx hb d_St_nameAt_22 (by decide) ?_
    exact W.iret (v := nI (a + 5)) hx hb hr (fun t ht hW => ⟨⟨_, (), rfl, by unfold nmAt; rw [if_pos c9], by rw [ht]; exact hP, va_K.moved hW.alike hK, hD⟩, hS.F ht⟩) hS.2.2 d_St_nameAt_44
set_option maxHeartbeats 4000000 in
set_option maxRecDepth 100000 in
/-- whether a change gives a name -/
theorem m_St_isNaming (l : Launch) (dC : Nat → ClassId) (dI : Nat → Nat → Nat) (cI cB cL cZ cR : ClassId) (h b_y ch cat : Nat) (sk_from sk_firstDependency sk_firstChange sk_dependencies sk_hashes sk_byHash sk_leansOn sk_leantBy sk_lines sk_patches ch_patch ch_file ch_firstLine ch_adds ch_files : Value) (f ca : Nat → Int32) (k a : Nat) (sz : Nat) (hk : k < 38000) (hca : ca k = nI a) (ha : a + 5 < 290000) (hn : f a = 1 → nmAt f a < 290000) : Met l y_St_isNaming ws_St_isNaming ({ frames := 1, cells := 0, slots := 0, locals := 60 }) (xw_Pc dC dI [(cI, .int), (cB, .byte), (cL, .long), (cZ, .boolean), (cR, .object "PatchStore$Repository")] [.ref h, .int (nI k)] [(h, .inr (9, [.ref b_y, sk_from, sk_firstDependency, sk_firstChange, sk_dependencies, sk_hashes, sk_byHash, sk_leansOn, sk_leantBy, .ref ch, sk_lines, sk_patches])), (b_y, .inl (cB, 290000, .inl f)), (ch, .inr (1, [.ref cat, ch_patch, ch_file, ch_firstLine, ch_adds, ch_files])), (cat, .inl (cI, 38000, .inl ca))] sz) (va_Qi (fun (r : Int32) (_ : Unit) => (r = 1 ∧ isNm f a) ∨ (r = 0 ∧ ¬ isNm f a)) (fun _ t => xw_B dC dI [(cI, .int), (cB, .byte), (cL, .long), (cZ, .boolean), (cR, .object "PatchStore$Repository")] (va_A [(h, .inr (9, [.ref b_y, sk_from, sk_firstDependency, sk_firstChange, sk_dependencies, sk_hashes, sk_byHash, sk_leansOn, sk_leantBy, .ref ch, sk_lines, sk_patches])), (b_y, .inl (cB, 290000, .inl f)), (ch, .inr (1, [.ref cat, ch_patch, ch_file, ch_firstLine, ch_adds, ch_files])), (cat, .inl (cI, 38000, .inl ca))] sz) [(h, .inr (9, [.ref b_y, sk_from, sk_firstDependency, sk_firstChange, sk_dependencies, sk_hashes, sk_byHash, sk_leansOn, sk_leantBy, .ref ch, sk_lines, sk_patches])), (b_y, .inl (cB, 290000, .inl f)), (ch, .inr (1, [.ref cat, ch_patch, ch_file, ch_firstLine, ch_adds, ch_files])), (cat, .inl (cI, 38000, .inl ca))] t) (va_A [(h, .inr (9, [.ref b_y, sk_from, sk_firstDependency, sk_firstChange, sk_dependencies, sk_hashes, sk_byHash, sk_leansOn, sk_leantBy, .ref ch, sk_lines, sk_patches])), (b_y, .inl (cB, 290000, .inl f)), (ch, .inr (1, [.ref cat, ch_patch, ch_file, ch_firstLine, ch_adds, ch_files])), (cat, .inl (cI, 38000, .inl ca))] sz)) 0 0 (va_A [(h, .inr (9, [.ref b_y, sk_from, sk_firstDependency, sk_firstChange, sk_dependencies, sk_hashes, sk_byHash, sk_leansOn, sk_leantBy, .ref ch, sk_lines, sk_patches])), (b_y, .inl (cB, 290000, .inl f)), (ch, .inr (1, [.ref cat, ch_patch, ch_file, ch_firstLine, ch_adds, ch_files])), (cat, .inl (cI, 38000, .inl ca))] sz) := by
  refine Met.ofW (cc := prog_10_method_6_code) (maxL := 3) (ret := (Option.some Jvm.ClassFile.FieldType.boolean)) (by decide) rfl ?_
  intro p e s m args below meth c s₁ B hml hv
  obtain ⟨rfl, hsz, hP, hK, hD0⟩ := hv
  have hx := B.exec
  have hb := B.bytes
  have hr := B.returns
  have hts0 := atoms_spec (ws := ws_St_isNaming) B.pre
  have hts : ∀ w ∈ xg_1, w.before _ s = true := fun w h => hts0 w (List.mem_cons_of_mem _ h)
  have hown : s.vm.findClass "PatchStore$Stock" = some m.cls := findClass_of_methodNamed B.named
  have hlocks := B.notSynchronized
  subst hsz
  have hD := hD0.self (sz := s.heap.size)
  generalize hAe : va_A [(h, .inr (9, [.ref b_y, sk_from, sk_firstDependency, sk_firstChange, sk_dependencies, sk_hashes, sk_byHash, sk_leansOn, sk_leantBy, .ref ch, sk_lines, sk_patches])), (b_y, .inl (cB, 290000, .inl f)), (ch, .inr (1, [.ref cat, ch_patch, ch_file, ch_firstLine, ch_adds, ch_files])), (cat, .inl (cI, 38000, .inl ca))] s.heap.size = A at hD ⊢
  have hA : ∀ q : Nat, s.heap.size ≤ q → A q := fun q h => by rw [← hAe]; exact Or.inr h
  have hS : va_S A s.heap s.heap [] := va_S.rf
  have hl := lv_entry ([.ref h, .int (nI k)]) (n := 3) (Nat.le_of_ble_eq_true rfl)
  rw [lg_entry_eq]
  generalize (lg_sl ([.ref h, .int (nI k)]) ++ List.replicate (3 - (lg_sl ([.ref h, .int (nI k)])).length) Slot.unset).toArray = ls at hl ⊢
  have hl : lv_has ls 3 [(0, .ref h), (1, .int (nI k))] := hl
  refine lv_aload_n hx hb d_St_isNaming_0 rfl (lv_at hl 0 rfl) ?_
  refine lv_iload_n hx hb d_St_isNaming_1 rfl (lv_at hl 1 rfl) ?_
  have hPc := hP.sub (ws' := [(h, .inr (9, [.ref b_y, sk_from, sk_firstDependency, sk_firstChange, sk_dependencies, sk_hashes, sk_byHash, sk_leansOn, sk_leantBy, .ref ch, sk_lines, sk_patches])), (b_y, .inl (cB, 290000, .inl f)), (ch, .inr (1, [.ref cat, ch_patch, ch_file, ch_firstLine, ch_adds, ch_files])), (cat, .inl (cI, 38000, .inl ca))]) [0, 1, 2, 3] rfl
  have hDc := hD.sub (ws' := [(h, .inr (9, [.ref b_y, sk_from, sk_firstDependency, sk_firstChange, sk_dependencies, sk_hashes, sk_byHash, sk_leansOn, sk_leantBy, .ref ch, sk_lines, sk_patches])), (b_y, .inl (cB, 290000, .inl f)), (ch, .inr (1, [.ref cat, ch_patch, ch_file, ch_firstLine, ch_adds, ch_files])), (cat, .inl (cI, 38000, .inl ca))]) [0, 1, 2, 3] (by decide) rfl
  have hFc := va_free (wc := [(h, .inr (9, [.ref b_y, sk_from, sk_firstDependency, sk_firstChange, sk_dependencies, sk_hashes, sk_byHash, sk_leansOn, sk_leantBy, .ref ch, sk_lines, sk_patches])), (b_y, .inl (cB, 290000, .inl f)), (ch, .inr (1, [.ref cat, ch_patch, ch_file, ch_firstLine, ch_adds, ch_files])), (cat, .inl (cI, 38000, .inl ca))]) hD hS hA [0, 1, 2, 3] rfl
  refine va_calli (va_runV (As := [.int (nI k)]) (rest := []) ⟨hx, hb, hml, hown, hts⟩ (m_St_kind l dC dI cI cB cL cZ cR h b_y ch cat (sk_from) (sk_firstDependency) (sk_firstChange) (sk_dependencies) (sk_hashes) (sk_byHash) (sk_leansOn) (sk_leantBy) (sk_lines) (sk_patches) (ch_patch) (ch_file) (ch_firstLine) (ch_adds) (ch_files) f ca k a s.heap.size hk hca (by omega)) (cwV 1 hts (xg_V gw_897 gw_890 gw_891 gw_3 gw_892) rfl rfl rfl (by decide +kernel) ⟨Nat.le_of_ble_eq_true rfl, Nat.le_of_ble_eq_true rfl⟩) ⟨xw_blind, va_recv hK hPc (ci := 9) (q0 := 0) rfl rfl, fun U hU hW => ⟨rfl, by rw [hU], by rw [hU]; exact hPc, va_K.moved hW.alike hK, hDc.weaken (fun _ _ _ _ => trivial)⟩⟩ rfl rfl hl.1 rfl (lv_room (Nat.le_of_ble_eq_true rfl)) d_St_isNaming_2 ⟨Nat.le_of_ble_eq_true rfl, Nat.le_of_ble_eq_true rfl⟩) hS (fun q _ h => hFc q h) hFc (fun r9 u t H1 locs ht hvm hw hB hz1 hk1 hS => ?_)
  obtain ⟨hP1, hK1, hD1⟩ := hB
  rw [ht] at hP1
  obtain ⟨hP, hD⟩ := va_join (wr := []) (w1 := [(h, .inr (9, [.ref b_y, sk_from, sk_firstDependency, sk_firstChange, sk_dependencies, sk_hashes, sk_byHash, sk_leansOn, sk_leantBy, .ref ch, sk_lines, sk_patches])), (b_y, .inl (cB, 290000, .inl f)), (ch, .inr (1, [.ref cat, ch_patch, ch_file, ch_firstLine, ch_adds, ch_files])), (cat, .inl (cI, 38000, .inl ca))]) hP hD [0, 1, 2, 3] [] rfl rfl (by decide) (by decide) hk1 hFc hP1 hD1
  generalize H1 = H at hP hS ⊢
  have hP : va_P (dC, dI) classes [(h, .inr (9, [.ref b_y, sk_from, sk_firstDependency, sk_firstChange, sk_dependencies, sk_hashes, sk_byHash, sk_leansOn, sk_leantBy, .ref ch, sk_lines, sk_patches])), (b_y, .inl (cB, 290000, .inl f)), (ch, .inr (1, [.ref cat, ch_patch, ch_file, ch_firstLine, ch_adds, ch_files])), (cat, .inl (cI, 38000, .inl ca))] H := hP
  have hD : va_D A [(h, .inr (9, [.ref b_y, sk_from, sk_firstDependency, sk_firstChange, sk_dependencies, sk_hashes, sk_byHash, sk_leansOn, sk_leantBy, .ref ch, sk_lines, sk_patches])), (b_y, .inl (cB, 290000, .inl f)), (ch, .inr (1, [.ref cat, ch_patch, ch_file, ch_firstLine, ch_adds, ch_files])), (cat, .inl (cI, 38000, .inl ca))] := hD
  subst hw
  refine lv_istore_n (lv' := [(2, .int (f a)), (0, .ref h), (1, .int (nI k))]) hx hb d_St_isNaming_5 rfl hl (by decide) rfl (fun ls hl => ?_)
  refine lv_iload_n hx hb d_St_isNaming_6 rfl (lv_at hl 0 rfl) ?_
  refine lv_if_eq (tgt := 28) hx hb d_St_isNaming_7 (by decide) (fun c_7 => ?_) (fun c_7 => ?_)
  · have hq : isNm f a := Or.inl c_7
    refine lv_iconst (v := 1) hx hb d_St_isNaming_28 (by decide) ?_
    refine lv_goto (tgt := 33) hx hb d_St_isNaming_29 (by decide) ?_
    exact W.zret (v := 1) hx hb hr nz_b1 (fun t ht hW => ⟨⟨_, (), rfl, Or.inl ⟨rfl, hq⟩, by rw [ht]; exact hP, va_K.moved hW.alike hK, hD⟩, hS.F ht⟩) hS.2.2 d_St_isNaming_33
  · refine lv_iload_n hx hb d_St_isNaming_10 rfl (lv_at hl 0 rfl) ?_
    refine lv_iconst (v := 1) hx hb d_St_isNaming_11 (by decide) ?_
    refine lv_icmp_ne (tgt := 32) hx hb d_St_isNaming_12 (by decide) (fun c_12 => ?_) (fun c_12 => ?_)
    · have hq : ¬ isNm f a := fun z => z.elim c_7 (fun z => c_12 z.1)
      refine lv_iconst (v := 0) hx hb d_St_isNaming_32 (by decide) ?_
      exact W.zret (v := 0) hx hb hr nz_b0 (fun t ht hW => ⟨⟨_, (), rfl, Or.inr ⟨rfl, hq⟩, by rw [ht]; exact hP, va_K.moved hW.alike hK, hD⟩, hS.F ht⟩) hS.2.2 d_St_isNaming_33
    · have hn9 := hn c_12
      refine lv_aload_n hx hb d_St_isNaming_15 rfl (lv_at hl 1 rfl) ?_
      refine va_get (D := (dC, dI)) (ci := 9) (v := .ref b_y) (C := R_St) (T := F_St) (N := 12) hx hb hts i_St hown hK hP 0 rfl rfl 0 (by decide) (hts _ gw_182) (fun _ h9 => h9) rfl d_St_isNaming_16 ?_
      refine lv_aload_n hx hb d_St_isNaming_19 rfl (lv_at hl 1 rfl) ?_
      refine lv_iload_n hx hb d_St_isNaming_20 rfl (lv_at hl 2 rfl) ?_
      have hPc := hP.sub (ws' := [(h, .inr (9, [.ref b_y, sk_from, sk_firstDependency, sk_firstChange, sk_dependencies, sk_hashes, sk_byHash, sk_leansOn, sk_leantBy, .ref ch, sk_lines, sk_patches])), (b_y, .inl (cB, 290000, .inl f)), (ch, .inr (1, [.ref cat, ch_patch, ch_file, ch_firstLine, ch_adds, ch_files])), (cat, .inl (cI, 38000, .inl ca))]) [0, 1, 2, 3] rfl
      have hDc := hD.sub (ws' := [(h, .inr (9, [.ref b_y, sk_from, sk_firstDependency, sk_firstChange, sk_dependencies, sk_hashes, sk_byHash, sk_leansOn, sk_leantBy, .ref ch, sk_lines, sk_patches])), (b_y, .inl (cB, 290000, .inl f)), (ch, .inr (1, [.ref cat, ch_patch, ch_file, ch_firstLine, ch_adds, ch_files])), (cat, .inl (cI, 38000, .inl ca))]) [0, 1, 2, 3] (by decide) rfl
      have hFc := va_free (wc := [(h, .inr (9, [.ref b_y, sk_from, sk_firstDependency, sk_firstChange, sk_dependencies, sk_hashes, sk_byHash, sk_leansOn, sk_leantBy, .ref ch, sk_lines, sk_patches])), (b_y, .inl (cB, 290000, .inl f)), (ch, .inr (1, [.ref cat, ch_patch, ch_file, ch_firstLine, ch_adds, ch_files])), (cat, .inl (cI, 38000, .inl ca))]) hD hS hA [0, 1, 2, 3] rfl
      refine va_calli (va_runV (As := [.int (nI k)]) (rest := [.ref b_y]) ⟨hx, hb, hml, hown, hts⟩ (m_St_nameAt l dC dI cI cB cL cZ cR h b_y ch cat (sk_from) (sk_firstDependency) (sk_firstChange) (sk_dependencies) (sk_hashes) (sk_byHash) (sk_leansOn) (sk_leantBy) (sk_lines) (sk_patches) (ch_patch) (ch_file) (ch_firstLine) (ch_adds) (ch_files) f ca k a H.size hk hca (by omega)) (cwV 1 hts (xg_V gw_898 gw_899 gw_900 gw_3 gw_901) rfl rfl rfl (by decide +kernel) ⟨Nat.le_of_ble_eq_true rfl, Nat.le_of_ble_eq_true rfl⟩) ⟨xw_blind, va_recv hK hPc (ci := 9) (q0 := 0) rfl rfl, fun U hU hW => ⟨rfl, by rw [hU], by rw [hU]; exact hPc, va_K.moved hW.alike hK, hDc.weaken (fun _ _ _ _ => trivial)⟩⟩ rfl rfl hl.1 rfl (lv_room (Nat.le_of_ble_eq_true rfl)) d_St_isNaming_21 ⟨Nat.le_of_ble_eq_true rfl, Nat.le_of_ble_eq_true rfl⟩) hS (fun q _ h => hFc q h) hFc (fun r9 u t H1 locs ht hvm hw hB hz1 hk1 hS => ?_)
      obtain ⟨hP1, hK1, hD1⟩ := hB
      rw [ht] at hP1
      obtain ⟨hP, hD⟩ := va_join (wr := []) (w1 := [(h, .inr (9, [.ref b_y, sk_from, sk_firstDependency, sk_firstChange, sk_dependencies, sk_hashes, sk_byHash, sk_leansOn, sk_leantBy, .ref ch, sk_lines, sk_patches])), (b_y, .inl (cB, 290000, .inl f)), (ch, .inr (1, [.ref cat, ch_patch, ch_file, ch_firstLine, ch_adds, ch_files])), (cat, .inl (cI, 38000, .inl ca))]) hP hD [0, 1, 2, 3] [] rfl rfl (by decide) (by decide) hk1 hFc hP1 hD1
      generalize H1 = H at hP hS ⊢
      have hP : va_P (dC, dI) classes [(h, .inr (9, [.ref b_y, sk_from, sk_firstDependency, sk_firstChange, sk_dependencies, sk_hashes, sk_byHash, sk_leansOn, sk_leantBy, .ref ch, sk_lines, sk_patches])), (b_y, .inl (cB, 290000, .inl f)), (ch, .inr (1, [.ref cat, ch_patch, ch_file, ch_firstLine, ch_adds, ch_files])), (cat, .inl (cI, 38000, .inl ca))] H := hP
      have hD : va_D A [(h, .inr (9, [.ref b_y, sk_from, sk_firstDependency, sk_firstChange, sk_dependencies, sk_hashes, sk_byHash, sk_leansOn, sk_leantBy, .ref ch, sk_lines, sk_patches])), (b_y, .inl (cB, 290000, .inl f)), (ch, .inr (1, [.ref cat, ch_patch, ch_file, ch_firstLine, ch_adds, ch_files])), (cat, .inl (cI, 38000, .inl ca))] := hD
      subst hw
      refine va_bald hx hb hK hP 1 1 rfl rfl (vp_in_nI (by omega) (by omega)) d_St_isNaming_24 ?_
      rw [show (nI (nmAt f a)).toNatClampNeg = (nmAt f a) from nI_clamp (by omega)]
      refine lv_if_eq (tgt := 32) hx hb d_St_isNaming_25 (by decide) (fun c_25 => ?_) (fun c_25 => ?_)
      · have hq : ¬ isNm f a := fun z => z.elim c_7 (fun z => z.2 c_25)
        refine lv_iconst (v := 0) hx hb d_St_isNaming_32 (by decide) ?_
        exact W.zret (v := 0) hx hb hr nz_b0 (fun t ht hW => ⟨⟨_, (), rfl, Or.inr ⟨rfl, hq⟩, by rw [ht]; exact hP, va_K.moved hW.alike hK, hD⟩, hS.F ht⟩) hS.2.2 d_St_isNaming_33
      · have hq : isNm f a := Or.inr ⟨c_12, c_25⟩
        refine lv_iconst (v := 1) hx hb d_St_isNaming_28 (by decide) ?_
        refine lv_goto (tgt := 33) hx hb d_St_isNaming_29 (by decide) ?_
        exact W.zret (v := 1) hx hb hr nz_b1 (fun t ht hW => ⟨⟨_, (), rfl, Or.inl ⟨rfl, hq⟩, by rw [ht]; exact hP, va_K.moved hW.alike hK, hD⟩, hS.F ht⟩) hS.2.2 d_St_isNaming_33
set_option maxHeartbeats 4000000 in
set_option maxRecDepth 100000 in
/-- where the down of an insert stands -/
theorem m_St_downAt (l : Launch) (dC : Nat → ClassId) (dI : Nat → Nat → Nat) (cI cB cL cZ cR : ClassId) (h b_y ch cat : Nat) (sk_from sk_firstDependency sk_firstChange sk_dependencies sk_hashes sk_byHash sk_leansOn sk_leantBy sk_lines sk_patches ch_patch ch_file ch_firstLine ch_adds ch_files : Value) (f ca : Nat → Int32) (k a : Nat) (sz : Nat) (hk : k < 38000) (hca : ca k = nI a) (ha : a + 5 < 290000) : Met l y_St_downAt ws_St_downAt ({ frames := 0, cells := 0, slots := 0, locals := 0 }) (xw_Pc dC dI [(cI, .int), (cB, .byte), (cL, .long), (cZ, .boolean), (cR, .object "PatchStore$Repository")] [.ref h, .int (nI k)] [(h, .inr (9, [.ref b_y, sk_from, sk_firstDependency, sk_firstChange, sk_dependencies, sk_hashes, sk_byHash, sk_leansOn, sk_leantBy, .ref ch, sk_lines, sk_patches])), (b_y, .inl (cB, 290000, .inl f)), (ch, .inr (1, [.ref cat, ch_patch, ch_file, ch_firstLine, ch_adds, ch_files])), (cat, .inl (cI, 38000, .inl ca))] sz) (va_Qi (fun (r : Int32) (_ : Unit) => r = nI (plEnd f (a + 5))) (fun _ t => xw_B dC dI [(cI, .int), (cB, .byte), (cL, .long), (cZ, .boolean), (cR, .object "PatchStore$Repository")] (va_A [(h, .inr (9, [.ref b_y, sk_from, sk_firstDependency, sk_firstChange, sk_dependencies, sk_hashes, sk_byHash, sk_leansOn, sk_leantBy, .ref ch, sk_lines, sk_patches])), (b_y, .inl (cB, 290000, .inl f)), (ch, .inr (1, [.ref cat, ch_patch, ch_file, ch_firstLine, ch_adds, ch_files])), (cat, .inl (cI, 38000, .inl ca))] sz) [(h, .inr (9, [.ref b_y, sk_from, sk_firstDependency, sk_firstChange, sk_dependencies, sk_hashes, sk_byHash, sk_leansOn, sk_leantBy, .ref ch, sk_lines, sk_patches])), (b_y, .inl (cB, 290000, .inl f)), (ch, .inr (1, [.ref cat, ch_patch, ch_file, ch_firstLine, ch_adds, ch_files])), (cat, .inl (cI, 38000, .inl ca))] t) (va_A [(h, .inr (9, [.ref b_y, sk_from, sk_firstDependency, sk_firstChange, sk_dependencies, sk_hashes, sk_byHash, sk_leansOn, sk_leantBy, .ref ch, sk_lines, sk_patches])), (b_y, .inl (cB, 290000, .inl f)), (ch, .inr (1, [.ref cat, ch_patch, ch_file, ch_firstLine, ch_adds, ch_files])), (cat, .inl (cI, 38000, .inl ca))] sz)) 0 0 (va_A [(h, .inr (9, [.ref b_y, sk_from, sk_firstDependency, sk_firstChange, sk_dependencies, sk_hashes, sk_byHash, sk_leansOn, sk_leantBy, .ref ch, sk_lines, sk_patches])), (b_y, .inl (cB, 290000, .inl f)), (ch, .inr (1, [.ref cat, ch_patch, ch_file, ch_firstLine, ch_adds, ch_files])), (cat, .inl (cI, 38000, .inl ca))] sz) := by
  refine Met.ofW (cc := prog_10_method_7_code) (maxL := 3) (ret := (Option.some Jvm.ClassFile.FieldType.int)) (by decide) rfl ?_
  intro p e s m args below meth c s₁ B hml hv
  obtain ⟨rfl, hsz, hP, hK, hD0⟩ := hv
  have hx := B.exec
  have hb := B.bytes
  have hr := B.returns
  have hts0 := atoms_spec (ws := ws_St_downAt) B.pre
  have hts : ∀ w ∈ xg_1, w.before _ s = true := fun w h => hts0 w (List.mem_cons_of_mem _ h)
  have hown : s.vm.findClass "PatchStore$Stock" = some m.cls := findClass_of_methodNamed B.named
  have hlocks := B.notSynchronized
  subst hsz
  have hD := hD0.self (sz := s.heap.size)
  generalize hAe : va_A [(h, .inr (9, [.ref b_y, sk_from, sk_firstDependency, sk_firstChange, sk_dependencies, sk_hashes, sk_byHash, sk_leansOn, sk_leantBy, .ref ch, sk_lines, sk_patches])), (b_y, .inl (cB, 290000, .inl f)), (ch, .inr (1, [.ref cat, ch_patch, ch_file, ch_firstLine, ch_adds, ch_files])), (cat, .inl (cI, 38000, .inl ca))] s.heap.size = A at hD ⊢
  have hA : ∀ q : Nat, s.heap.size ≤ q → A q := fun q h => by rw [← hAe]; exact Or.inr h
  have hS : va_S A s.heap s.heap [] := va_S.rf
  have hl := lv_entry ([.ref h, .int (nI k)]) (n := 3) (Nat.le_of_ble_eq_true rfl)
  rw [lg_entry_eq]
  generalize (lg_sl ([.ref h, .int (nI k)]) ++ List.replicate (3 - (lg_sl ([.ref h, .int (nI k)])).length) Slot.unset).toArray = ls at hl ⊢
  have hl : lv_has ls 3 [(0, .ref h), (1, .int (nI k))] := hl
  refine lv_aload_n hx hb d_St_downAt_0 rfl (lv_at hl 0 rfl) ?_
  refine va_get (D := (dC, dI)) (ci := 9) (v := .ref ch) (C := R_St) (T := F_St) (N := 12) hx hb hts i_St hown hK hP 0 rfl rfl 9 (by decide) (hts _ gw_224) (fun _ h9 => h9) rfl d_St_downAt_1 ?_
  refine va_get (D := (dC, dI)) (ci := 1) (v := .ref cat) (C := R_Ch) (T := F_Ch) (N := 6) hx hb hts i_Ch hown hK hP 2 rfl rfl 0 (by decide) (hts _ gw_88) (fun _ h9 => h9) rfl d_St_downAt_4 ?_
  refine lv_iload_n hx hb d_St_downAt_7 rfl (lv_at hl 1 rfl) ?_
  refine va_iald hx hb hK hP 3 0 rfl rfl (vp_in_nI (by omega) (by omega)) d_St_downAt_8 ?_
  rw [show (nI k).toNatClampNeg = k from nI_clamp (by omega)]
  refine lv_topi (fun x_1 ex_1 => ?_)
  obtain rfl : x_1 = nI a := by rw [ex_1]; first | done | (exact hca)
  refine lv_iconst (v := 5) hx hb d_St_downAt_9 (by decide) ?_
  refine lv_iadd hx hb d_St_downAt_10 ?_
  refine lv_topi (fun x_2 ex_2 => ?_)
  obtain rfl : x_2 = nI (a + 5) := by rw [ex_2]; first | done | (exact nI_add a 5)
  refine lv_istore_n (lv' := [(2, .int (nI (a + 5))), (0, .ref h), (1, .int (nI k))]) hx hb d_St_downAt_11 rfl hl (by decide) rfl (fun ls hl => ?_)
  refine lv_iload_n hx hb d_St_downAt_12 rfl (lv_at hl 0 rfl) ?_
  refine lv_aload_n hx hb d_St_downAt_13 rfl (lv_at hl 1 rfl) ?_
  refine va_get (D := (dC, dI)) (ci := 9) (v := .ref b_y) (C := R_St) (T := F_St) (N := 12) hx hb hts i_St hown hK hP 0 rfl rfl 0 (by decide) (hts _ gw_182) (fun _ h9 => h9) rfl d_St_downAt_14 ?_
  refine lv_iload_n hx hb d_St_downAt_17 rfl (lv_at hl 0 rfl) ?_
  refine va_bald hx hb hK hP 1 1 rfl rfl (vp_in_nI (by omega) (by omega)) d_St_downAt_18 ?_
  rw [show (nI (a + 5)).toNatClampNeg = (a + 5) from nI_clamp (by omega)]
  refine lv_if_ne (tgt := 26) hx hb d_St_downAt_19 (by decide) (fun c_19 => ?_) (fun c_19 => ?_)
  · have c9 : ¬ f (a + 5) = 0 := c_19
    refine lv_bipush (v := 7) hx hb d_St_downAt_26 (by decide) ?_
    refine lv_iadd hx hb d_St_downAt_28 ?_
    refine lv_topi (fun x_3 ex_3 => ?_)
    obtain rfl : x_3 = nI (a + 5 + 7) := by rw [ex_3]; first | done | (exact nI_add _ _)
    exact W.iret (v := nI (a + 5 + 7)) hx hb hr (fun t ht hW => ⟨⟨_, (), rfl, congrArg nI (plEnd_n c9).symm, by rw [ht]; exact hP, va_K.moved hW.alike hK, hD⟩, hS.F ht⟩) hS.2.2 d_St_downAt_29
  · have c9 : f (a + 5) = 0 := c_19
    refine lv_iconst (v := 1) hx hb d_St_downAt_22 (by decide) ?_
    refine lv_goto (tgt := 28) hx hb d_St_downAt_23 (by decide) ?_
    refine lv_iadd hx hb d_St_downAt_28 ?_
    refine lv_topi (fun x_4 ex_4 => ?_)
    obtain rfl : x_4 = nI (a + 5 + 1) := by rw [ex_4]; first | done | (exact nI_add _ _)
    exact W.iret (v := nI (a + 5 + 1)) hx hb hr (fun t ht hW => ⟨⟨_, (), rfl, congrArg nI (plEnd_z c9).symm, by rw [ht]; exact hP, va_K.moved hW.alike hK, hD⟩, hS.F ht⟩) hS.2.2 d_St_downAt_29
set_option maxHeartbeats 4000000 in
set_option maxRecDepth 100000 in
/-- where the number of lines of an insert stands -/
theorem m_St_linesAt (l : Launch) (dC : Nat → ClassId) (dI : Nat → Nat → Nat) (cI cB cL cZ cR : ClassId) (h b_y ch cat : Nat) (sk_from sk_firstDependency sk_firstChange sk_dependencies sk_hashes sk_byHash sk_leansOn sk_leantBy sk_lines sk_patches ch_patch ch_file ch_firstLine ch_adds ch_files : Value) (f ca : Nat → Int32) (k a : Nat) (sz : Nat) (hk : k < 38000) (hca : ca k = nI a) (ha : a + 5 < 290000) (hd : plEnd f (a + 5) < 290000) : Met l y_St_linesAt ws_St_linesAt ({ frames := 1, cells := 0, slots := 0, locals := 60 }) (xw_Pc dC dI [(cI, .int), (cB, .byte), (cL, .long), (cZ, .boolean), (cR, .object "PatchStore$Repository")] [.ref h, .int (nI k)] [(h, .inr (9, [.ref b_y, sk_from, sk_firstDependency, sk_firstChange, sk_dependencies, sk_hashes, sk_byHash, sk_leansOn, sk_leantBy, .ref ch, sk_lines, sk_patches])), (b_y, .inl (cB, 290000, .inl f)), (ch, .inr (1, [.ref cat, ch_patch, ch_file, ch_firstLine, ch_adds, ch_files])), (cat, .inl (cI, 38000, .inl ca))] sz) (va_Qi (fun (r : Int32) (_ : Unit) => r = nI (plEnd f (plEnd f (a + 5)))) (fun _ t => xw_B dC dI [(cI, .int), (cB, .byte), (cL, .long), (cZ, .boolean), (cR, .object "PatchStore$Repository")] (va_A [(h, .inr (9, [.ref b_y, sk_from, sk_firstDependency, sk_firstChange, sk_dependencies, sk_hashes, sk_byHash, sk_leansOn, sk_leantBy, .ref ch, sk_lines, sk_patches])), (b_y, .inl (cB, 290000, .inl f)), (ch, .inr (1, [.ref cat, ch_patch, ch_file, ch_firstLine, ch_adds, ch_files])), (cat, .inl (cI, 38000, .inl ca))] sz) [(h, .inr (9, [.ref b_y, sk_from, sk_firstDependency, sk_firstChange, sk_dependencies, sk_hashes, sk_byHash, sk_leansOn, sk_leantBy, .ref ch, sk_lines, sk_patches])), (b_y, .inl (cB, 290000, .inl f)), (ch, .inr (1, [.ref cat, ch_patch, ch_file, ch_firstLine, ch_adds, ch_files])), (cat, .inl (cI, 38000, .inl ca))] t) (va_A [(h, .inr (9, [.ref b_y, sk_from, sk_firstDependency, sk_firstChange, sk_dependencies, sk_hashes, sk_byHash, sk_leansOn, sk_leantBy, .ref ch, sk_lines, sk_patches])), (b_y, .inl (cB, 290000, .inl f)), (ch, .inr (1, [.ref cat, ch_patch, ch_file, ch_firstLine, ch_adds, ch_files])), (cat, .inl (cI, 38000, .inl ca))] sz)) 0 0 (va_A [(h, .inr (9, [.ref b_y, sk_from, sk_firstDependency, sk_firstChange, sk_dependencies, sk_hashes, sk_byHash, sk_leansOn, sk_leantBy, .ref ch, sk_lines, sk_patches])), (b_y, .inl (cB, 290000, .inl f)), (ch, .inr (1, [.ref cat, ch_patch, ch_file, ch_firstLine, ch_adds, ch_files])), (cat, .inl (cI, 38000, .inl ca))] sz) := by
  refine Met.ofW (cc := prog_10_method_8_code) (maxL := 3) (ret := (Option.some Jvm.ClassFile.FieldType.int)) (by decide) rfl ?_
  intro p e s m args below meth c s₁ B hml hv
  obtain ⟨rfl, hsz, hP, hK, hD0⟩ := hv
  have hx := B.exec
  have hb := B.bytes
  have hr := B.returns
  have hts0 := atoms_spec (ws := ws_St_linesAt) B.pre
  have hts : ∀ w ∈ xg_1, w.before _ s = true := fun w h => hts0 w (List.mem_cons_of_mem _ h)
  have hown : s.vm.findClass "PatchStore$Stock" = some m.cls := findClass_of_methodNamed B.named
  have hlocks := B.notSynchronized
  subst hsz
  have hD := hD0.self (sz := s.heap.size)
  generalize hAe : va_A [(h, .inr (9, [.ref b_y, sk_from, sk_firstDependency, sk_firstChange, sk_dependencies, sk_hashes, sk_byHash, sk_leansOn, sk_leantBy, .ref ch, sk_lines, sk_patches])), (b_y, .inl (cB, 290000, .inl f)), (ch, .inr (1, [.ref cat, ch_patch, ch_file, ch_firstLine, ch_adds, ch_files])), (cat, .inl (cI, 38000, .inl ca))] s.heap.size = A at hD ⊢
  have hA : ∀ q : Nat, s.heap.size ≤ q → A q := fun q h => by rw [← hAe]; exact Or.inr h
  have hS : va_S A s.heap s.heap [] := va_S.rf
  have hl := lv_entry ([.ref h, .int (nI k)]) (n := 3) (Nat.le_of_ble_eq_true rfl)
  rw [lg_entry_eq]
  generalize (lg_sl ([.ref h, .int (nI k)]) ++ List.replicate (3 - (lg_sl ([.ref h, .int (nI k)])).length) Slot.unset).toArray = ls at hl ⊢
  have hl : lv_has ls 3 [(0, .ref h), (1, .int (nI k))] := hl
  refine lv_aload_n hx hb d_St_linesAt_0 rfl (lv_at hl 0 rfl) ?_
  refine lv_iload_n hx hb d_St_linesAt_1 rfl (lv_at hl 1 rfl) ?_
  have hPc := hP.sub (ws' := [(h, .inr (9, [.ref b_y, sk_from, sk_firstDependency, sk_firstChange, sk_dependencies, sk_hashes, sk_byHash, sk_leansOn, sk_leantBy, .ref ch, sk_lines, sk_patches])), (b_y, .inl (cB, 290000, .inl f)), (ch, .inr (1, [.ref cat, ch_patch, ch_file, ch_firstLine, ch_adds, ch_files])), (cat, .inl (cI, 38000, .inl ca))]) [0, 1, 2, 3] rfl
  have hDc := hD.sub (ws' := [(h, .inr (9, [.ref b_y, sk_from, sk_firstDependency, sk_firstChange, sk_dependencies, sk_hashes, sk_byHash, sk_leansOn, sk_leantBy, .ref ch, sk_lines, sk_patches])), (b_y, .inl (cB, 290000, .inl f)), (ch, .inr (1, [.ref cat, ch_patch, ch_file, ch_firstLine, ch_adds, ch_files])), (cat, .inl (cI, 38000, .inl ca))]) [0, 1, 2, 3] (by decide) rfl
  have hFc := va_free (wc := [(h, .inr (9, [.ref b_y, sk_from, sk_firstDependency, sk_firstChange, sk_dependencies, sk_hashes, sk_byHash, sk_leansOn, sk_leantBy, .ref ch, sk_lines, sk_patches])), (b_y, .inl (cB, 290000, .inl f)), (ch, .inr (1, [.ref cat, ch_patch, ch_file, ch_firstLine, ch_adds, ch_files])), (cat, .inl (cI, 38000, .inl ca))]) hD hS hA [0, 1, 2, 3] rfl
  refine va_calli (va_runV (As := [.int (nI k)]) (rest := []) ⟨hx, hb, hml, hown, hts⟩ (m_St_downAt l dC dI cI cB cL cZ cR h b_y ch cat (sk_from) (sk_firstDependency) (sk_firstChange) (sk_dependencies) (sk_hashes) (sk_byHash) (sk_leansOn) (sk_leantBy) (sk_lines) (sk_patches) (ch_patch) (ch_file) (ch_firstLine) (ch_adds) (ch_files) f ca k a s.heap.size hk hca (by omega)) (cwV 1 hts (xg_V gw_922 gw_911 gw_912 gw_3 gw_913) rfl rfl rfl (by decide +kernel) ⟨Nat.le_of_ble_eq_true rfl, Nat.le_of_ble_eq_true rfl⟩) ⟨xw_blind, va_recv hK hPc (ci := 9) (q0 := 0) rfl rfl, fun U hU hW => ⟨rfl, by rw [hU], by rw [hU]; exact hPc, va_K.moved hW.alike hK, hDc.weaken (fun _ _ _ _ => trivial)⟩⟩ rfl rfl hl.1 rfl (lv_room (Nat.le_of_ble_eq_true rfl)) d_St_linesAt_2 ⟨Nat.le_of_ble_eq_true rfl, Nat.le_of_ble_eq_true rfl⟩) hS (fun q _ h => hFc q h) hFc (fun r9 u t H1 locs ht hvm hw hB hz1 hk1 hS => ?_)
  obtain ⟨hP1, hK1, hD1⟩ := hB
  rw [ht] at hP1
  obtain ⟨hP, hD⟩ := va_join (wr := []) (w1 := [(h, .inr (9, [.ref b_y, sk_from, sk_firstDependency, sk_firstChange, sk_dependencies, sk_hashes, sk_byHash, sk_leansOn, sk_leantBy, .ref ch, sk_lines, sk_patches])), (b_y, .inl (cB, 290000, .inl f)), (ch, .inr (1, [.ref cat, ch_patch, ch_file, ch_firstLine, ch_adds, ch_files])), (cat, .inl (cI, 38000, .inl ca))]) hP hD [0, 1, 2, 3] [] rfl rfl (by decide) (by decide) hk1 hFc hP1 hD1
  generalize H1 = H at hP hS ⊢
  have hP : va_P (dC, dI) classes [(h, .inr (9, [.ref b_y, sk_from, sk_firstDependency, sk_firstChange, sk_dependencies, sk_hashes, sk_byHash, sk_leansOn, sk_leantBy, .ref ch, sk_lines, sk_patches])), (b_y, .inl (cB, 290000, .inl f)), (ch, .inr (1, [.ref cat, ch_patch, ch_file, ch_firstLine, ch_adds, ch_files])), (cat, .inl (cI, 38000, .inl ca))] H := hP
  have hD : va_D A [(h, .inr (9, [.ref b_y, sk_from, sk_firstDependency, sk_firstChange, sk_dependencies, sk_hashes, sk_byHash, sk_leansOn, sk_leantBy, .ref ch, sk_lines, sk_patches])), (b_y, .inl (cB, 290000, .inl f)), (ch, .inr (1, [.ref cat, ch_patch, ch_file, ch_firstLine, ch_adds, ch_files])), (cat, .inl (cI, 38000, .inl ca))] := hD
  subst hw
  refine lv_istore_n (lv' := [(2, .int (nI (plEnd f (a + 5)))), (0, .ref h), (1, .int (nI k))]) hx hb d_St_linesAt_5 rfl hl (by decide) rfl (fun ls hl => ?_)
  refine lv_iload_n hx hb d_St_linesAt_6 rfl (lv_at hl 0 rfl) ?_
  refine lv_aload_n hx hb d_St_linesAt_7 rfl (lv_at hl 1 rfl) ?_
  refine va_get (D := (dC, dI)) (ci := 9) (v := .ref b_y) (C := R_St) (T := F_St) (N := 12) hx hb hts i_St hown hK hP 0 rfl rfl 0 (by decide) (hts _ gw_182) (fun _ h9 => h9) rfl d_St_linesAt_8 ?_
  refine lv_iload_n hx hb d_St_linesAt_11 rfl (lv_at hl 0 rfl) ?_
  refine va_bald hx hb hK hP 1 1 rfl rfl (vp_in_nI (by omega) (by omega)) d_St_linesAt_12 ?_
  rw [show (nI (plEnd f (a + 5))).toNatClampNeg = (plEnd f (a + 5)) from nI_clamp (by omega)]
  refine lv_if_ne (tgt := 20) hx hb d_St_linesAt_13 (by decide) (fun c_13 => ?_) (fun c_13 => ?_)
  · have c9 : ¬ f (plEnd f (a + 5)) = 0 := c_13
    refine lv_bipush (v := 7) hx hb d_St_linesAt_20 (by decide) ?_
    refine lv_iadd hx hb d_St_linesAt_22 ?_
    refine lv_topi (fun x_1 ex_1 => ?_)
    obtain rfl : x_1 = nI (plEnd f (a + 5) + 7) := by rw [ex_1]; first | done | (exact nI_add _ _)
    exact W.iret (v := nI (plEnd f (a + 5) + 7)) hx hb hr (fun t ht hW => ⟨⟨_, (), rfl, congrArg nI (plEnd_n c9).symm, by rw [ht]; exact hP, va_K.moved hW.alike hK, hD⟩, hS.F ht⟩) hS.2.2 d_St_linesAt_23
  · have c9 : f (plEnd f (a + 5)) = 0 := c_13
    refine lv_iconst (v := 1) hx hb d_St_linesAt_16 (by decide) ?_
    refine lv_goto (tgt := 22) hx hb d_St_linesAt_17 (by decide) ?_
    refine lv_iadd hx hb d_St_linesAt_22 ?_
    refine lv_topi (fun x_2 ex_2 => ?_)
    obtain rfl : x_2 = nI (plEnd f (a + 5) + 1) := by rw [ex_2]; first | done | (exact nI_add _ _)
    exact W.iret (v := nI (plEnd f (a + 5) + 1)) hx hb hr (fun t ht hW => ⟨⟨_, (), rfl, congrArg nI (plEnd_z c9).symm, by rw [ht]; exact hP, va_K.moved hW.alike hK, hD⟩, hS.F ht⟩) hS.2.2 d_St_linesAt_23
