/-! 99q.parse1.lean.txt -/
theorem gw_1725 : (Jvm.Cond.methodLink "PatchStoreModel" (297 : Nat) ({ cls := "PatchStoreModel", name := "skip", desc := "(I)V" } : Jvm.MethodName)) ∈ xg_1 := xg_s8 45 rfl rfl
theorem gw_1727 : (Jvm.Cond.instanceMethod ({ cls := "PatchStoreModel", name := "skip", desc := "(I)V" } : Jvm.MethodName)) ∈ xg_1 := xg_s8 47 rfl rfl
theorem gw_1728 : (Jvm.Cond.code ({ cls := "PatchStoreModel", name := "skip", desc := "(I)V" } : Jvm.MethodName) prog_14_method_11_code (2 : Nat) (Option.none : Option Jvm.ClassFile.FieldType)) ∈ xg_1 := xg_s8 48 rfl rfl
def y_Md_order0 : MethodName := ⟨"PatchStoreModel", "order", "([BI[BII)I"⟩
abbrev c_Md_order0 : Cond := (Jvm.Cond.code ({ cls := "PatchStoreModel", name := "order", desc := "([BI[BII)I" } : Jvm.MethodName) prog_14_method_8_code (7 : Nat) (Option.some Jvm.ClassFile.FieldType.int))
abbrev ws_Md_order0 : List Cond := c_Md_order0 :: xg_1
theorem d_Md_order0_0 : decode prog_14_method_8_code 0 = .ok (.iconst 0, 1) := by decide +kernel
theorem d_Md_order0_1 : decode prog_14_method_8_code 1 = .ok (.istore 5, 2) := by decide +kernel
theorem d_Md_order0_3 : decode prog_14_method_8_code 3 = .ok (.iload 5, 2) := by decide +kernel
theorem d_Md_order0_5 : decode prog_14_method_8_code 5 = .ok (.iload 4, 2) := by decide +kernel
theorem d_Md_order0_7 : decode prog_14_method_8_code 7 = .ok (.if_icmp .ge 40, 3) := by decide +kernel
theorem d_Md_order0_10 : decode prog_14_method_8_code 10 = .ok (.aload_n 0, 1) := by decide +kernel
theorem d_Md_order0_11 : decode prog_14_method_8_code 11 = .ok (.iload_n 1, 1) := by decide +kernel
theorem d_Md_order0_12 : decode prog_14_method_8_code 12 = .ok (.iload 5, 2) := by decide +kernel
theorem d_Md_order0_14 : decode prog_14_method_8_code 14 = .ok (.iadd, 1) := by decide +kernel
theorem d_Md_order0_15 : decode prog_14_method_8_code 15 = .ok (.baload, 1) := by decide +kernel
theorem d_Md_order0_16 : decode prog_14_method_8_code 16 = .ok (.sipush 255, 3) := by decide +kernel
theorem d_Md_order0_19 : decode prog_14_method_8_code 19 = .ok (.iand, 1) := by decide +kernel
theorem d_Md_order0_20 : decode prog_14_method_8_code 20 = .ok (.aload_n 2, 1) := by decide +kernel
theorem d_Md_order0_21 : decode prog_14_method_8_code 21 = .ok (.iload_n 3, 1) := by decide +kernel
theorem d_Md_order0_22 : decode prog_14_method_8_code 22 = .ok (.iload 5, 2) := by decide +kernel
theorem d_Md_order0_24 : decode prog_14_method_8_code 24 = .ok (.iadd, 1) := by decide +kernel
theorem d_Md_order0_25 : decode prog_14_method_8_code 25 = .ok (.baload, 1) := by decide +kernel
theorem d_Md_order0_26 : decode prog_14_method_8_code 26 = .ok (.sipush 255, 3) := by decide +kernel
theorem d_Md_order0_29 : decode prog_14_method_8_code 29 = .ok (.iand, 1) := by decide +kernel
theorem d_Md_order0_30 : decode prog_14_method_8_code 30 = .ok (.isub, 1) := by decide +kernel
theorem d_Md_order0_31 : decode prog_14_method_8_code 31 = .ok (.istore 6, 2) := by decide +kernel
theorem d_Md_order0_33 : decode prog_14_method_8_code 33 = .ok (.iload 6, 2) := by decide +kernel
theorem d_Md_order0_35 : decode prog_14_method_8_code 35 = .ok (.ifCond .eq 6, 3) := by decide +kernel
theorem d_Md_order0_38 : decode prog_14_method_8_code 38 = .ok (.iload 6, 2) := by decide +kernel
theorem d_Md_order0_40 : decode prog_14_method_8_code 40 = .ok (.ireturn, 1) := by decide +kernel
theorem d_Md_order0_41 : decode prog_14_method_8_code 41 = .ok (.iinc 5 1, 3) := by decide +kernel
theorem d_Md_order0_44 : decode prog_14_method_8_code 44 = .ok (.goto (-41), 3) := by decide +kernel
theorem d_Md_order0_47 : decode prog_14_method_8_code 47 = .ok (.iconst 0, 1) := by decide +kernel
theorem d_Md_order0_48 : decode prog_14_method_8_code 48 = .ok (.ireturn, 1) := by decide +kernel
def y_Md_skip : MethodName := ⟨"PatchStoreModel", "skip", "(I)V"⟩
abbrev c_Md_skip : Cond := (Jvm.Cond.code ({ cls := "PatchStoreModel", name := "skip", desc := "(I)V" } : Jvm.MethodName) prog_14_method_11_code (2 : Nat) (Option.none : Option Jvm.ClassFile.FieldType))
abbrev ws_Md_skip : List Cond := c_Md_skip :: xg_1
theorem d_Md_skip_0 : decode prog_14_method_11_code 0 = .ok (.aload_n 0, 1) := by decide +kernel
theorem d_Md_skip_1 : decode prog_14_method_11_code 1 = .ok (.getfield 141, 3) := by decide +kernel
theorem d_Md_skip_4 : decode prog_14_method_11_code 4 = .ok (.aload_n 0, 1) := by decide +kernel
theorem d_Md_skip_5 : decode prog_14_method_11_code 5 = .ok (.getfield 138, 3) := by decide +kernel
theorem d_Md_skip_8 : decode prog_14_method_11_code 8 = .ok (.isub, 1) := by decide +kernel
theorem d_Md_skip_9 : decode prog_14_method_11_code 9 = .ok (.iload_n 1, 1) := by decide +kernel
theorem d_Md_skip_10 : decode prog_14_method_11_code 10 = .ok (.if_icmp .ge 19, 3) := by decide +kernel
theorem d_Md_skip_13 : decode prog_14_method_11_code 13 = .ok (.aload_n 0, 1) := by decide +kernel
theorem d_Md_skip_14 : decode prog_14_method_11_code 14 = .ok (.iconst 1, 1) := by decide +kernel
theorem d_Md_skip_15 : decode prog_14_method_11_code 15 = .ok (.putfield 144, 3) := by decide +kernel
theorem d_Md_skip_18 : decode prog_14_method_11_code 18 = .ok (.aload_n 0, 1) := by decide +kernel
theorem d_Md_skip_19 : decode prog_14_method_11_code 19 = .ok (.aload_n 0, 1) := by decide +kernel
theorem d_Md_skip_20 : decode prog_14_method_11_code 20 = .ok (.getfield 141, 3) := by decide +kernel
theorem d_Md_skip_23 : decode prog_14_method_11_code 23 = .ok (.putfield 138, 3) := by decide +kernel
theorem d_Md_skip_26 : decode prog_14_method_11_code 26 = .ok (.goto 13, 3) := by decide +kernel
theorem d_Md_skip_29 : decode prog_14_method_11_code 29 = .ok (.aload_n 0, 1) := by decide +kernel
theorem d_Md_skip_30 : decode prog_14_method_11_code 30 = .ok (.dup, 1) := by decide +kernel
theorem d_Md_skip_31 : decode prog_14_method_11_code 31 = .ok (.getfield 138, 3) := by decide +kernel
theorem d_Md_skip_34 : decode prog_14_method_11_code 34 = .ok (.iload_n 1, 1) := by decide +kernel
theorem d_Md_skip_35 : decode prog_14_method_11_code 35 = .ok (.iadd, 1) := by decide +kernel
theorem d_Md_skip_36 : decode prog_14_method_11_code 36 = .ok (.putfield 138, 3) := by decide +kernel
theorem d_Md_skip_39 : decode prog_14_method_11_code 39 = .ok (.return_, 1) := by decide +kernel
def y_Md_name0 : MethodName := ⟨"PatchStoreModel", "name", "(I)V"⟩
abbrev c_Md_name0 : Cond := (Jvm.Cond.code ({ cls := "PatchStoreModel", name := "name", desc := "(I)V" } : Jvm.MethodName) prog_14_method_12_code (4 : Nat) (Option.none : Option Jvm.ClassFile.FieldType))
abbrev ws_Md_name0 : List Cond := c_Md_name0 :: xg_1
theorem d_Md_name0_0 : decode prog_14_method_12_code 0 = .ok (.iload_n 1, 1) := by decide +kernel
theorem d_Md_name0_1 : decode prog_14_method_12_code 1 = .ok (.iconst 1, 1) := by decide +kernel
theorem d_Md_name0_2 : decode prog_14_method_12_code 2 = .ok (.if_icmp .lt 9, 3) := by decide +kernel
theorem d_Md_name0_5 : decode prog_14_method_12_code 5 = .ok (.iload_n 1, 1) := by decide +kernel
theorem d_Md_name0_6 : decode prog_14_method_12_code 6 = .ok (.bipush 64, 2) := by decide +kernel
theorem d_Md_name0_8 : decode prog_14_method_12_code 8 = .ok (.if_icmp .le 8, 3) := by decide +kernel
theorem d_Md_name0_11 : decode prog_14_method_12_code 11 = .ok (.aload_n 0, 1) := by decide +kernel
theorem d_Md_name0_12 : decode prog_14_method_12_code 12 = .ok (.iconst 1, 1) := by decide +kernel
theorem d_Md_name0_13 : decode prog_14_method_12_code 13 = .ok (.putfield 144, 3) := by decide +kernel
theorem d_Md_name0_16 : decode prog_14_method_12_code 16 = .ok (.aload_n 0, 1) := by decide +kernel
theorem d_Md_name0_17 : decode prog_14_method_12_code 17 = .ok (.getfield 138, 3) := by decide +kernel
theorem d_Md_name0_20 : decode prog_14_method_12_code 20 = .ok (.istore_n 2, 1) := by decide +kernel
theorem d_Md_name0_21 : decode prog_14_method_12_code 21 = .ok (.aload_n 0, 1) := by decide +kernel
theorem d_Md_name0_22 : decode prog_14_method_12_code 22 = .ok (.iload_n 1, 1) := by decide +kernel
theorem d_Md_name0_23 : decode prog_14_method_12_code 23 = .ok (.invokevirtual 297, 3) := by decide +kernel
theorem d_Md_name0_26 : decode prog_14_method_12_code 26 = .ok (.iload_n 2, 1) := by decide +kernel
theorem d_Md_name0_27 : decode prog_14_method_12_code 27 = .ok (.istore_n 3, 1) := by decide +kernel
theorem d_Md_name0_28 : decode prog_14_method_12_code 28 = .ok (.iload_n 3, 1) := by decide +kernel
theorem d_Md_name0_29 : decode prog_14_method_12_code 29 = .ok (.aload_n 0, 1) := by decide +kernel
theorem d_Md_name0_30 : decode prog_14_method_12_code 30 = .ok (.getfield 138, 3) := by decide +kernel
theorem d_Md_name0_33 : decode prog_14_method_12_code 33 = .ok (.if_icmp .ge 36, 3) := by decide +kernel
theorem d_Md_name0_36 : decode prog_14_method_12_code 36 = .ok (.aload_n 0, 1) := by decide +kernel
theorem d_Md_name0_37 : decode prog_14_method_12_code 37 = .ok (.getfield 135, 3) := by decide +kernel
theorem d_Md_name0_40 : decode prog_14_method_12_code 40 = .ok (.iload_n 3, 1) := by decide +kernel
theorem d_Md_name0_41 : decode prog_14_method_12_code 41 = .ok (.baload, 1) := by decide +kernel
theorem d_Md_name0_42 : decode prog_14_method_12_code 42 = .ok (.bipush 33, 2) := by decide +kernel
theorem d_Md_name0_44 : decode prog_14_method_12_code 44 = .ok (.if_icmp .lt 14, 3) := by decide +kernel
theorem d_Md_name0_47 : decode prog_14_method_12_code 47 = .ok (.aload_n 0, 1) := by decide +kernel
theorem d_Md_name0_48 : decode prog_14_method_12_code 48 = .ok (.getfield 135, 3) := by decide +kernel
theorem d_Md_name0_51 : decode prog_14_method_12_code 51 = .ok (.iload_n 3, 1) := by decide +kernel
theorem d_Md_name0_52 : decode prog_14_method_12_code 52 = .ok (.baload, 1) := by decide +kernel
theorem d_Md_name0_53 : decode prog_14_method_12_code 53 = .ok (.bipush 126, 2) := by decide +kernel
theorem d_Md_name0_55 : decode prog_14_method_12_code 55 = .ok (.if_icmp .le 8, 3) := by decide +kernel
theorem d_Md_name0_58 : decode prog_14_method_12_code 58 = .ok (.aload_n 0, 1) := by decide +kernel
theorem d_Md_name0_59 : decode prog_14_method_12_code 59 = .ok (.iconst 1, 1) := by decide +kernel
theorem d_Md_name0_60 : decode prog_14_method_12_code 60 = .ok (.putfield 144, 3) := by decide +kernel
theorem d_Md_name0_63 : decode prog_14_method_12_code 63 = .ok (.iinc 3 1, 3) := by decide +kernel
theorem d_Md_name0_66 : decode prog_14_method_12_code 66 = .ok (.goto (-38), 3) := by decide +kernel
theorem d_Md_name0_69 : decode prog_14_method_12_code 69 = .ok (.return_, 1) := by decide +kernel
/-- a step of the parse: from k to k', the flag from w to w' -/
def prs (n k : Nat) (w : Int32) (k' : Nat) (w' : Int32) (OK : Nat → Prop) : Prop := k ≤ k' ∧ k' ≤ n ∧ ((w' = w ∧ OK k') ∨ (w' = 1 ∧ ∀ b, ¬ OK b))
theorem prs.bad {n k k' : Nat} {w w' : Int32} {OK : Nat → Prop} (h : prs n k w k' w' OK) (hw : w = 1) : w' = 1 := by
  rcases h.2.2 with ⟨z, _⟩ | ⟨z, _⟩
  · rw [z, hw]
  · exact z
/-- one step behind another -/
theorem prs.seq {n k k1 k2 : Nat} {w w1 w2 : Int32} {A : Nat → Prop} {B : Nat → Nat → Prop} {C : Nat → Prop} (h : prs n k w k1 w1 A) (g : prs n k1 w1 k2 w2 (B k1)) (hu : ∀ q, A q → A k1 → q = k1) (hC : ∀ b, C b ↔ ∃ q, A q ∧ B q b) : prs n k w k2 w2 C := by
  obtain ⟨h1, h2, h3⟩ := h
  obtain ⟨g1, g2, g3⟩ := g
  refine ⟨by omega, g2, ?_⟩
  rcases h3 with ⟨e1, a1⟩ | ⟨e1, a1⟩
  · rcases g3 with ⟨e2, b2⟩ | ⟨e2, b2⟩
    · exact Or.inl ⟨e2.trans e1, (hC _).mpr ⟨k1, a1, b2⟩⟩
    · refine Or.inr ⟨e2, fun b z => ?_⟩
      obtain ⟨q, z1, z2⟩ := (hC b).mp z
      rw [hu q z1 a1] at z2
      exact b2 b z2
  · refine Or.inr ⟨?_, fun b z => ?_⟩
    · rcases g3 with ⟨e2, _⟩ | ⟨e2, _⟩
      · rw [e2, e1]
      · exact e2
    · obtain ⟨q, z1, _⟩ := (hC b).mp z
      exact a1 q z1
theorem prs.iff {n k k' : Nat} {w w' : Int32} {A B : Nat → Prop} (h : prs n k w k' w' A) (e : ∀ b, A b ↔ B b) : prs n k w k' w' B := by
  refine ⟨h.1, h.2.1, ?_⟩
  rcases h.2.2 with ⟨z1, z2⟩ | ⟨z1, z2⟩
  · exact Or.inl ⟨z1, (e _).mp z2⟩
  · exact Or.inr ⟨z1, fun b z => z2 b ((e b).mpr z)⟩
theorem prs.rf {n k : Nat} {w : Int32} (hk : k ≤ n) : prs n k w k w (fun b => b = k) := ⟨Nat.le_refl _, hk, Or.inl ⟨rfl, rfl⟩⟩
/-- a check that sets the flag -/
theorem prs.chk {n k k' : Nat} {w w' : Int32} {A : Nat → Prop} {c : Prop} (h : prs n k w k' w' A) (hc : ¬ c) : prs n k w k' 1 (fun b => c ∧ A b) := ⟨h.1, h.2.1, Or.inr ⟨rfl, fun b z => hc z.1⟩⟩
theorem prs.yes {n k k' : Nat} {w w' : Int32} {A : Nat → Prop} {c : Prop} (h : prs n k w k' w' A) (hc : c) : prs n k w k' w' (fun b => c ∧ A b) := h.iff (fun b => ⟨fun z => ⟨hc, z⟩, fun z => z.2⟩)
/-- a byte that is so small is its number -/
theorem by1_b8 {x : Int32} (h : by1 x = x) : x.toInt = if b8 x < 128 then (b8 x : Int) else (b8 x : Int) - 256 := by
  have e : x.toInt = (x.toInt8.toInt) := by
    conv => lhs; rw [← h]
    unfold by1
    exact Int8.toInt_toInt32 _
  rw [e]
  have e2 : x.toInt8.toBitVec.toNat = b8 x := by
    unfold b8
    show (x.toBitVec.signExtend 8).toNat = _
    rw [BitVec.signExtend_eq_setWidth_of_le _ (by decide), BitVec.toNat_setWidth]
  show x.toInt8.toBitVec.toInt = _
  rw [BitVec.toInt_eq_toNat_cond, e2]
  have := b8_lt x
  by_cases z : b8 x < 128
  · rw [if_pos z, if_pos (by omega)]
  · rw [if_neg z, if_neg (by omega)]; rfl
theorem b8_nI {x : Int32} {j : Nat} (h : by1 x = x) (hj : j < 128) : b8 x = j ↔ x = nI j := by
  have e := by1_b8 h
  constructor
  · intro z
    rw [if_pos (by omega), z] at e
    exact Int32.toInt_inj.mp (e.trans (nI_toInt (by omega)).symm)
  · intro z
    have e2 : x.toInt = (j : Int) := by rw [z]; exact nI_toInt (by omega)
    have := b8_lt x
    by_cases y : b8 x < 128
    · rw [if_pos y] at e; omega
    · rw [if_neg y] at e; omega
theorem b8_pos {x : Int32} (h : by1 x = x) : b8 x < 128 ↔ ¬ x < 0 := by
  have e := by1_b8 h
  have := b8_lt x
  rw [Int32.lt_iff_toInt_lt]
  show _ ↔ ¬ x.toInt < 0
  by_cases y : b8 x < 128
  · rw [if_pos y] at e; exact ⟨fun _ => by omega, fun _ => y⟩
  · rw [if_neg y] at e; exact ⟨fun z => absurd z y, fun z => absurd z (by omega)⟩
theorem b8_1 {v : Nat} (hv : v < 256) : ((0 : Int32) <<< ((8 : Int32) &&& 31)) ||| nI v = nI v := (b8_two (a := 0) (by decide) hv).trans (congrArg nI (by omega))
theorem nm_fin {f : Nat → Int32} {a0 n k x q k1 : Nat} {w w0 w1 w9 : Int32} (h0 : (w0 = w ∧ (1 ≤ x ∧ x ≤ 64)) ∨ (w0 = 1 ∧ ¬ (1 ≤ x ∧ x ≤ 64))) (hs : prs n k w0 k1 w1 (fun b => k + x ≤ n ∧ b = k + x)) (hq : q = k1) (h9 : (w9 = w1 ∧ ∀ i, k ≤ i → i < q → ¬ f (a0 + i) < 33 ∧ f (a0 + i) ≤ 126) ∨ (w9 = 1 ∧ ¬ ∀ i, k ≤ i → i < k1 → ¬ f (a0 + i) < 33 ∧ f (a0 + i) ≤ 126)) : prs n k w k1 w9 (fun b => (1 ≤ x ∧ x ≤ 64) ∧ (k + x ≤ n ∧ b = k + x) ∧ plain f (a0 + k) x) := by
  subst hq
  obtain ⟨s1, s2, s3⟩ := hs
  refine ⟨s1, s2, ?_⟩
  have pl : ∀ {e : Nat}, e = k + x → ((∀ i, k ≤ i → i < e → ¬ f (a0 + i) < 33 ∧ f (a0 + i) ≤ 126) ↔ plain f (a0 + k) x) := by
    rintro e rfl
    constructor
    · intro z i h1 h2
      have := z (i - a0) (by omega) (by omega)
      rwa [show a0 + (i - a0) = i by omega] at this
    · intro z i h1 h2
      exact z (a0 + i) (by omega) (by omega)
  rcases s3 with ⟨e1, e2, e3⟩ | ⟨e1, e2⟩
  · rcases h9 with ⟨e4, e5⟩ | ⟨e4, e5⟩
    · rcases h0 with ⟨e6, e7⟩ | ⟨e6, e7⟩
      · exact Or.inl ⟨e4.trans (e1.trans e6), e7, ⟨e2, e3⟩, (pl e3).mp e5⟩
      · exact Or.inr ⟨e4.trans (e1.trans e6), fun b z => e7 z.1⟩
    · exact Or.inr ⟨e4, fun b z => e5 ((pl e3).mpr z.2.2)⟩
  · refine Or.inr ⟨?_, fun b z => e2 b z.2.1⟩
    rcases h9 with ⟨e4, _⟩ | ⟨e4, _⟩
    · exact e4.trans e1
    · exact e4
set_option maxHeartbeats 4000000 in
set_option maxRecDepth 100000 in
/-- bytes compared -/
theorem m_Md_ord2 (l : Launch) (dC : Nat → ClassId) (dI : Nat → Nat → Nat) (cI cB cL cZ cR : ClassId) (p1 p2 : Nat) (N1 N2 : Nat) (f g : Nat → Int32) (i j nn : Nat) (sz : Nat) (hN1 : N1 < 2147483648) (hN2 : N2 < 2147483648) (h1 : i + nn ≤ N1) (h2 : j + nn ≤ N2) : Met l y_Md_order0 ws_Md_order0 ({ frames := 0, cells := 0, slots := 0, locals := 0 }) (xw_Pc dC dI [(cI, .int), (cB, .byte), (cL, .long), (cZ, .boolean), (cR, .object "PatchStore$Repository")] [.ref p1, .int (nI i), .ref p2, .int (nI j), .int (nI nn)] [(p1, .inl (cB, N1, .inl f)), (p2, .inl (cB, N2, .inl g))] sz) (va_Qi (fun (r : Int32) (_ : Unit) => r = bo f g i j nn) (fun _ t => xw_B dC dI [(cI, .int), (cB, .byte), (cL, .long), (cZ, .boolean), (cR, .object "PatchStore$Repository")] (va_A [(p1, .inl (cB, N1, .inl f)), (p2, .inl (cB, N2, .inl g))] sz) [(p1, .inl (cB, N1, .inl f)), (p2, .inl (cB, N2, .inl g))] t) (va_A [(p1, .inl (cB, N1, .inl f)), (p2, .inl (cB, N2, .inl g))] sz)) 0 0 (va_A [(p1, .inl (cB, N1, .inl f)), (p2, .inl (cB, N2, .inl g))] sz) := by
  refine Met.ofW (cc := prog_14_method_8_code) (maxL := 7) (ret := (Option.some Jvm.ClassFile.FieldType.int)) (by decide) rfl ?_
  intro p e s m args below meth c s₁ B hml hv
  obtain ⟨rfl, hsz, hP, hK, hD0⟩ := hv
  have hx := B.exec
  have hb := B.bytes
  have hr := B.returns
  have hts0 := atoms_spec (ws := ws_Md_order0) B.pre
  have hts : ∀ w ∈ xg_1, w.before _ s = true := fun w h => hts0 w (List.mem_cons_of_mem _ h)
  have hown : s.vm.findClass "PatchStoreModel" = some m.cls := findClass_of_methodNamed B.named
  have hlocks := B.notSynchronized
  subst hsz
  have hD := hD0.self (sz := s.heap.size)
  generalize hAe : va_A [(p1, .inl (cB, N1, .inl f)), (p2, .inl (cB, N2, .inl g))] s.heap.size = A at hD ⊢
  have hA : ∀ q : Nat, s.heap.size ≤ q → A q := fun q h => by rw [← hAe]; exact Or.inr h
  have hS : va_S A s.heap s.heap [] := va_S.rf
  have hl := lv_entry ([.ref p1, .int (nI i), .ref p2, .int (nI j), .int (nI nn)]) (n := 7) (Nat.le_of_ble_eq_true rfl)
  rw [lg_entry_eq]
  generalize (lg_sl ([.ref p1, .int (nI i), .ref p2, .int (nI j), .int (nI nn)]) ++ List.replicate (7 - (lg_sl ([.ref p1, .int (nI i), .ref p2, .int (nI j), .int (nI nn)])).length) Slot.unset).toArray = ls at hl ⊢
  have hl : lv_has ls 7 [(0, .ref p1), (1, .int (nI i)), (2, .ref p2), (3, .int (nI j)), (4, .int (nI nn))] := hl
  generalize hQe : MQ _ _ _ _ _ _ _ = Q
  refine lv_iconst (v := 0) hx hb d_Md_order0_0 (by decide) ?_
  refine lv_istore (lv' := [(5, .int 0), (0, .ref p1), (1, .int (nI i)), (2, .ref p2), (3, .int (nI j)), (4, .int (nI nn))]) hx hb d_Md_order0_1 hl (by decide) rfl (fun ls hl => ?_)
  have loop_3 : ∀ (n9 : Nat) (k : Nat) (H : Heap) (locs : List Loc) (ls : Array Slot), nn - k < n9 → (k ≤ nn) → (bo f g (i + k) (j + k) (nn - k) = bo f g i j nn) → va_P (dC, dI) classes [(p1, .inl (cB, N1, .inl f)), (p2, .inl (cB, N2, .inl g))] H → va_D A [(p1, .inl (cB, N1, .inl f)), (p2, .inl (cB, N2, .inl g))] → va_S A s.heap H locs → lv_has ls 7 [(0, .ref p1), (1, .int (nI i)), (2, .ref p2), (3, .int (nI j)), (4, .int (nI nn)), (5, .int (nI k))] → W p l e (headSpec ws_Md_order0 ({ frames := 0, cells := 0, slots := 0, locals := 0 })).room s m ([.ref p1, .int (nI i), .ref p2, .int (nI j), .int (nI nn)] : List Value).toArray below meth c H locs 0 0 Q (F0 m 3 ls []) := by
    intro n9
    induction n9 with
    | zero => intro k H locs ls hm; exact absurd hm (Nat.not_lt_zero _)
    | succ n9 ih_3 =>
      intro k H locs ls hm hk hi hP hD hS hl
      refine lv_iload hx hb d_Md_order0_3 (lv_at hl 5 rfl) ?_
      refine lv_iload hx hb d_Md_order0_5 (lv_at hl 4 rfl) ?_
      refine lv_icmp_ge (tgt := 47) hx hb d_Md_order0_7 (by decide) (fun c_7 => ?_) (fun c_7 => ?_)
      · have n_7 : nn ≤ k := (nI_leI (a := nn) (b := k) (by omega) (by omega)).mp c_7
        refine lv_iconst (v := 0) hx hb d_Md_order0_47 (by decide) ?_
        rw [← hQe]
        exact W.iret (v := 0) hx hb hr (fun t ht hW => ⟨⟨_, (), rfl, by rw [← hi, show nn - k = 0 by omega]; rfl, by rw [ht]; exact hP, va_K.moved hW.alike hK, hD⟩, hS.F ht⟩) hS.2.2 d_Md_order0_48
      · have n_7 : k < nn := Nat.lt_of_not_le (fun z => c_7 ((nI_leI (a := nn) (b := k) (by omega) (by omega)).mpr z))
        refine lv_aload_n hx hb d_Md_order0_10 rfl (lv_at hl 0 rfl) ?_
        refine lv_iload_n hx hb d_Md_order0_11 rfl (lv_at hl 1 rfl) ?_
        refine lv_iload hx hb d_Md_order0_12 (lv_at hl 5 rfl) ?_
        refine lv_iadd hx hb d_Md_order0_14 ?_
        refine lv_topi (fun x_1 ex_1 => ?_)
        obtain rfl : x_1 = nI (i + k) := by rw [ex_1]; first | done | (exact nI_add _ _)
        refine va_bald hx hb hK hP 0 1 rfl rfl (vp_in_nI (by omega) (by omega)) d_Md_order0_15 ?_
        rw [show (nI (i + k)).toNatClampNeg = (i + k) from nI_clamp (by omega)]
        refine lv_sipush (v := 255) hx hb d_Md_order0_16 (by decide) ?_
        refine lv_iand hx hb d_Md_order0_19 ?_
        refine lv_topi (fun x_2 ex_2 => ?_)
        obtain rfl : x_2 = nI (b8 (f (i + k))) := by rw [ex_2]; first | done | (exact b8_eq _)
        refine lv_aload_n hx hb d_Md_order0_20 rfl (lv_at hl 2 rfl) ?_
        refine lv_iload_n hx hb d_Md_order0_21 rfl (lv_at hl 3 rfl) ?_
        refine lv_iload hx hb d_Md_order0_22 (lv_at hl 5 rfl) ?_
        refine lv_iadd hx hb d_Md_order0_24 ?_
        refine lv_topi (fun x_3 ex_3 => ?_)
        obtain rfl : x_3 = nI (j + k) := by rw [ex_3]; first | done | (exact nI_add _ _)
        refine va_bald hx hb hK hP 1 1 rfl rfl (vp_in_nI (by omega) (by omega)) d_Md_order0_25 ?_
        rw [show (nI (j + k)).toNatClampNeg = (j + k) from nI_clamp (by omega)]
        refine lv_sipush (v := 255) hx hb d_Md_order0_26 (by decide) ?_
        refine lv_iand hx hb d_Md_order0_29 ?_
        refine lv_topi (fun x_4 ex_4 => ?_)
        obtain rfl : x_4 = nI (b8 (g (j + k))) := by rw [ex_4]; first | done | (exact b8_eq _)
        refine lv_isub hx hb d_Md_order0_30 ?_
        refine lv_istore (lv' := [(6, .int ((nI (b8 (f (i + k)))) - (nI (b8 (g (j + k)))))), (0, .ref p1), (1, .int (nI i)), (2, .ref p2), (3, .int (nI j)), (4, .int (nI nn)), (5, .int (nI k))]) hx hb d_Md_order0_31 hl (by decide) rfl (fun ls hl => ?_)
        refine lv_iload hx hb d_Md_order0_33 (lv_at hl 0 rfl) ?_
        refine lv_if_eq (tgt := 41) hx hb d_Md_order0_35 (by decide) (fun c_35 => ?_) (fun c_35 => ?_)
        · refine lv_iinc (v := nI (k + 1)) (lv' := [(5, .int (nI (k + 1))), (6, .int ((nI (b8 (f (i + k)))) - (nI (b8 (g (j + k)))))), (0, .ref p1), (1, .int (nI i)), (2, .ref p2), (3, .int (nI j)), (4, .int (nI nn))]) hx hb d_Md_order0_41 hl (k := 6) rfl (by exact nI_add _ _) (by decide) rfl (fun ls hl => ?_)
          refine lv_goto (tgt := 3) hx hb d_Md_order0_44 (by decide) ?_
          exact ih_3 (k + 1) _ _ _ (by omega) (by omega) (by rw [← hi, show nn - k = (nn - (k + 1)) + 1 by omega, bo_s, if_pos c_35]; rfl) hP hD hS (lv_sub hl [2, 3, 4, 5, 6, 0] rfl)
        · refine lv_iload hx hb d_Md_order0_38 (lv_at hl 0 rfl) ?_
          rw [← hQe]
          exact W.iret (v := (nI (b8 (f (i + k)))) - (nI (b8 (g (j + k))))) hx hb hr (fun t ht hW => ⟨⟨_, (), rfl, by rw [← hi, show nn - k = (nn - k - 1) + 1 by omega, bo_s, if_neg c_35], by rw [ht]; exact hP, va_K.moved hW.alike hK, hD⟩, hS.F ht⟩) hS.2.2 d_Md_order0_40
  exact loop_3 _ 0 _ _ _ (Nat.lt_succ_self _) (Nat.zero_le _) (rfl) hP hD hS (lv_sub hl [1, 2, 3, 4, 5, 0] rfl)
set_option maxHeartbeats 4000000 in
set_option maxRecDepth 100000 in
/-- bytes compared -/
theorem m_Md_ord1 (l : Launch) (dC : Nat → ClassId) (dI : Nat → Nat → Nat) (cI cB cL cZ cR : ClassId) (p1 : Nat) (N1 : Nat) (f : Nat → Int32) (i j nn : Nat) (sz : Nat) (hN1 : N1 < 2147483648) (h1 : i + nn ≤ N1) (h2 : j + nn ≤ N1) : Met l y_Md_order0 ws_Md_order0 ({ frames := 0, cells := 0, slots := 0, locals := 0 }) (xw_Pc dC dI [(cI, .int), (cB, .byte), (cL, .long), (cZ, .boolean), (cR, .object "PatchStore$Repository")] [.ref p1, .int (nI i), .ref p1, .int (nI j), .int (nI nn)] [(p1, .inl (cB, N1, .inl f))] sz) (va_Qi (fun (r : Int32) (_ : Unit) => r = bo f f i j nn) (fun _ t => xw_B dC dI [(cI, .int), (cB, .byte), (cL, .long), (cZ, .boolean), (cR, .object "PatchStore$Repository")] (va_A [(p1, .inl (cB, N1, .inl f))] sz) [(p1, .inl (cB, N1, .inl f))] t) (va_A [(p1, .inl (cB, N1, .inl f))] sz)) 0 0 (va_A [(p1, .inl (cB, N1, .inl f))] sz) := by
  refine Met.ofW (cc := prog_14_method_8_code) (maxL := 7) (ret := (Option.some Jvm.ClassFile.FieldType.int)) (by decide) rfl ?_
  intro p e s m args below meth c s₁ B hml hv
  obtain ⟨rfl, hsz, hP, hK, hD0⟩ := hv
  have hx := B.exec
  have hb := B.bytes
  have hr := B.returns
  have hts0 := atoms_spec (ws := ws_Md_order0) B.pre
  have hts : ∀ w ∈ xg_1, w.before _ s = true := fun w h => hts0 w (List.mem_cons_of_mem _ h)
  have hown : s.vm.findClass "PatchStoreModel" = some m.cls := findClass_of_methodNamed B.named
  have hlocks := B.notSynchronized
  subst hsz
  have hD := hD0.self (sz := s.heap.size)
  generalize hAe : va_A [(p1, .inl (cB, N1, .inl f))] s.heap.size = A at hD ⊢
  have hA : ∀ q : Nat, s.heap.size ≤ q → A q := fun q h => by rw [← hAe]; exact Or.inr h
  have hS : va_S A s.heap s.heap [] := va_S.rf
  have hl := lv_entry ([.ref p1, .int (nI i), .ref p1, .int (nI j), .int (nI nn)]) (n := 7) (Nat.le_of_ble_eq_true rfl)
  rw [lg_entry_eq]
  generalize (lg_sl ([.ref p1, .int (nI i), .ref p1, .int (nI j), .int (nI nn)]) ++ List.replicate (7 - (lg_sl ([.ref p1, .int (nI i), .ref p1, .int (nI j), .int (nI nn)])).length) Slot.unset).toArray = ls at hl ⊢
  have hl : lv_has ls 7 [(0, .ref p1), (1, .int (nI i)), (2, .ref p1), (3, .int (nI j)), (4, .int (nI nn))] := hl
  generalize hQe : MQ _ _ _ _ _ _ _ = Q
  refine lv_iconst (v := 0) hx hb d_Md_order0_0 (by decide) ?_
  refine lv_istore (lv' := [(5, .int 0), (0, .ref p1), (1, .int (nI i)), (2, .ref p1), (3, .int (nI j)), (4, .int (nI nn))]) hx hb d_Md_order0_1 hl (by decide) rfl (fun ls hl => ?_)
  have loop_3 : ∀ (n9 : Nat) (k : Nat) (H : Heap) (locs : List Loc) (ls : Array Slot), nn - k < n9 → (k ≤ nn) → (bo f f (i + k) (j + k) (nn - k) = bo f f i j nn) → va_P (dC, dI) classes [(p1, .inl (cB, N1, .inl f))] H → va_D A [(p1, .inl (cB, N1, .inl f))] → va_S A s.heap H locs → lv_has ls 7 [(0, .ref p1), (1, .int (nI i)), (2, .ref p1), (3, .int (nI j)), (4, .int (nI nn)), (5, .int (nI k))] → W p l e (headSpec ws_Md_order0 ({ frames := 0, cells := 0, slots := 0, locals := 0 })).room s m ([.ref p1, .int (nI i), .ref p1, .int (nI j), .int (nI nn)] : List Value).toArray below meth c H locs 0 0 Q (F0 m 3 ls []) := by
    intro n9
    induction n9 with
    | zero => intro k H locs ls hm; exact absurd hm (Nat.not_lt_zero _)
    | succ n9 ih_3 =>
      intro k H locs ls hm hk hi hP hD hS hl
      refine lv_iload hx hb d_Md_order0_3 (lv_at hl 5 rfl) ?_
      refine lv_iload hx hb d_Md_order0_5 (lv_at hl 4 rfl) ?_
      refine lv_icmp_ge (tgt := 47) hx hb d_Md_order0_7 (by decide) (fun c_7 => ?_) (fun c_7 => ?_)
      · have n_7 : nn ≤ k := (nI_leI (a := nn) (b := k) (by omega) (by omega)).mp c_7
        refine lv_iconst (v := 0) hx hb d_Md_order0_47 (by decide) ?_
        rw [← hQe]
        exact W.iret (v := 0) hx hb hr (fun t ht hW => ⟨⟨_, (), rfl, by rw [← hi, show nn - k = 0 by omega]; rfl, by rw [ht]; exact hP, va_K.moved hW.alike hK, hD⟩, hS.F ht⟩) hS.2.2 d_Md_order0_48
      · have n_7 : k < nn := Nat.lt_of_not_le (fun z => c_7 ((nI_leI (a := nn) (b := k) (by omega) (by omega)).mpr z))
        refine lv_aload_n hx hb d_Md_order0_10 rfl (lv_at hl 0 rfl) ?_
        refine lv_iload_n hx hb d_Md_order0_11 rfl (lv_at hl 1 rfl) ?_
        refine lv_iload hx hb d_Md_order0_12 (lv_at hl 5 rfl) ?_
        refine lv_iadd hx hb d_Md_order0_14 ?_
        refine lv_topi (fun x_1 ex_1 => ?_)
        obtain rfl : x_1 = nI (i + k) := by rw [ex_1]; first | done | (exact nI_add _ _)
        refine va_bald hx hb hK hP 0 1 rfl rfl (vp_in_nI (by omega) (by omega)) d_Md_order0_15 ?_
        rw [show (nI (i + k)).toNatClampNeg = (i + k) from nI_clamp (by omega)]
        refine lv_sipush (v := 255) hx hb d_Md_order0_16 (by decide) ?_
        refine lv_iand hx hb d_Md_order0_19 ?_
        refine lv_topi (fun x_2 ex_2 => ?_)
        obtain rfl : x_2 = nI (b8 (f (i + k))) := by rw [ex_2]; first | done | (exact b8_eq _)
        refine lv_aload_n hx hb d_Md_order0_20 rfl (lv_at hl 2 rfl) ?_
        refine lv_iload_n hx hb d_Md_order0_21 rfl (lv_at hl 3 rfl) ?_
        refine lv_iload hx hb d_Md_order0_22 (lv_at hl 5 rfl) ?_
        refine lv_iadd hx hb d_Md_order0_24 ?_
        refine lv_topi (fun x_3 ex_3 => ?_)
        obtain rfl : x_3 = nI (j + k) := by rw [ex_3]; first | done | (exact nI_add _ _)
        refine va_bald hx hb hK hP 0 1 rfl rfl (vp_in_nI (by omega) (by omega)) d_Md_order0_25 ?_
        rw [show (nI (j + k)).toNatClampNeg = (j + k) from nI_clamp (by omega)]
        refine lv_sipush (v := 255) hx hb d_Md_order0_26 (by decide) ?_
        refine lv_iand hx hb d_Md_order0_29 ?_
        refine lv_topi (fun x_4 ex_4 => ?_)
        obtain rfl : x_4 = nI (b8 (f (j + k))) := by rw [ex_4]; first | done | (exact b8_eq _)
        refine lv_isub hx hb d_Md_order0_30 ?_
        refine lv_istore (lv' := [(6, .int ((nI (b8 (f (i + k)))) - (nI (b8 (f (j + k)))))), (0, .ref p1), (1, .int (nI i)), (2, .ref p1), (3, .int (nI j)), (4, .int (nI nn)), (5, .int (nI k))]) hx hb d_Md_order0_31 hl (by decide) rfl (fun ls hl => ?_)
        refine lv_iload hx hb d_Md_order0_33 (lv_at hl 0 rfl) ?_
        refine lv_if_eq (tgt := 41) hx hb d_Md_order0_35 (by decide) (fun c_35 => ?_) (fun c_35 => ?_)
        · refine lv_iinc (v := nI (k + 1)) (lv' := [(5, .int (nI (k + 1))), (6, .int ((nI (b8 (f (i + k)))) - (nI (b8 (f (j + k)))))), (0, .ref p1), (1, .int (nI i)), (2, .ref p1), (3, .int (nI j)), (4, .int (nI nn))]) hx hb d_Md_order0_41 hl (k := 6) rfl (by exact nI_add _ _) (by decide) rfl (fun ls hl => ?_)
          refine lv_goto (tgt := 3) hx hb d_Md_order0_44 (by decide) ?_
          exact ih_3 (k + 1) _ _ _ (by omega) (by omega) (by rw [← hi, show nn - k = (nn - (k + 1)) + 1 by omega, bo_s, if_pos c_35]; rfl) hP hD hS (lv_sub hl [2, 3, 4, 5, 6, 0] rfl)
        · refine lv_iload hx hb d_Md_order0_38 (lv_at hl 0 rfl) ?_
          rw [← hQe]
          exact W.iret (v := (nI (b8 (f (i + k)))) - (nI (b8 (f (j + k))))) hx hb hr (fun t ht hW => ⟨⟨_, (), rfl, by rw [← hi, show nn - k = (nn - k - 1) + 1 by omega, bo_s, if_neg c_35], by rw [ht]; exact hP, va_K.moved hW.alike hK, hD⟩, hS.F ht⟩) hS.2.2 d_Md_order0_40
  exact loop_3 _ 0 _ _ _ (Nat.lt_succ_self _) (Nat.zero_le _) (rfl) hP hD hS (lv_sub hl [1, 2, 3, 4, 5, 0] rfl)
set_option maxHeartbeats 4000000 in
set_option maxRecDepth 100000 in
/-- 1 bytes are read -/
theorem m_Md_next1 (l : Launch) (dC : Nat → ClassId) (dI : Nat → Nat → Nat) (cI cB cL cZ cR : ClassId) (md inA NI : Nat) (md_tape md_size md_thrown md_fault md_bytes md_used md_at md_length md_depAt md_firstChange md_hashes md_deps md_patches md_sort md_of md_fileOf md_one md_two md_nameAt md_nameSize md_overAt md_overCount md_lineAt md_lineCount md_changes md_overs md_overTotal md_lineChange md_textAt md_textSize md_lines md_fileChange md_fileLines md_files md_sets md_stamp md_digest md_dep md_named md_depCount md_own md_refFile md_full md_h md_counts md_marked md_namings md_namingCount md_listed md_listedCount md_listedStamp md_member md_text md_place md_dead md_edge md_way md_members md_textLines md_unsure md_workedRepository md_workedFile md_workedStamp md_stack md_before md_left md_made md_madeSize md_need md_needs md_newAt md_newSize md_news md_common md_keptAs md_isNew md_keptFrom md_stateOf md_rising : Value) (gi f : Nat → Int32) (a0 n k : Nat) (w : Int32) (sz : Nat) (hn : n ≤ NI) (hNI : NI ≤ 200000) (hk : k ≤ n) (hin : ∀ i, i < n → gi i = f (a0 + i)) : Met l y_Md_next ws_Md_next ({ frames := 0, cells := 0, slots := 0, locals := 0 }) (xw_Pc dC dI [(cI, .int), (cB, .byte), (cL, .long), (cZ, .boolean), (cR, .object "PatchStore$Repository")] [.ref md, .int 1] [(md, .inr (12, [md_tape, md_size, md_thrown, md_fault, md_bytes, md_used, md_at, md_length, md_depAt, md_firstChange, md_hashes, md_deps, md_patches, md_sort, md_of, md_fileOf, md_one, md_two, md_nameAt, md_nameSize, md_overAt, md_overCount, md_lineAt, md_lineCount, md_changes, md_overs, md_overTotal, md_lineChange, md_textAt, md_textSize, md_lines, md_fileChange, md_fileLines, md_files, md_sets, md_stamp, md_digest, .ref inA, .int (nI k), .int (nI n), .int w, md_dep, md_named, md_depCount, md_own, md_refFile, md_full, md_h, md_counts, md_marked, md_namings, md_namingCount, md_listed, md_listedCount, md_listedStamp, md_member, md_text, md_place, md_dead, md_edge, md_way, md_members, md_textLines, md_unsure, md_workedRepository, md_workedFile, md_workedStamp, md_stack, md_before, md_left, md_made, md_madeSize, md_need, md_needs, md_newAt, md_newSize, md_news, md_common, md_keptAs, md_isNew, md_keptFrom, md_stateOf, md_rising])), (inA, .inl (cB, NI, .inl gi))] sz) (va_Qi (fun (r : Int32) (u : Nat × Nat × Int32) => (r = nI u.1) ∧ ((u.1 = b8 (f (a0 + k)) ∧ k + 1 ≤ n ∧ u.2.1 = k + 1 ∧ u.2.2 = w) ∨ (u.1 = 0 ∧ n < k + 1 ∧ u.2.1 = n ∧ u.2.2 = 1))) (fun u t => xw_B dC dI [(cI, .int), (cB, .byte), (cL, .long), (cZ, .boolean), (cR, .object "PatchStore$Repository")] (va_A [(md, .inr (12, [md_tape, md_size, md_thrown, md_fault, md_bytes, md_used, md_at, md_length, md_depAt, md_firstChange, md_hashes, md_deps, md_patches, md_sort, md_of, md_fileOf, md_one, md_two, md_nameAt, md_nameSize, md_overAt, md_overCount, md_lineAt, md_lineCount, md_changes, md_overs, md_overTotal, md_lineChange, md_textAt, md_textSize, md_lines, md_fileChange, md_fileLines, md_files, md_sets, md_stamp, md_digest, .ref inA, .int (nI k), .int (nI n), .int w, md_dep, md_named, md_depCount, md_own, md_refFile, md_full, md_h, md_counts, md_marked, md_namings, md_namingCount, md_listed, md_listedCount, md_listedStamp, md_member, md_text, md_place, md_dead, md_edge, md_way, md_members, md_textLines, md_unsure, md_workedRepository, md_workedFile, md_workedStamp, md_stack, md_before, md_left, md_made, md_madeSize, md_need, md_needs, md_newAt, md_newSize, md_news, md_common, md_keptAs, md_isNew, md_keptFrom, md_stateOf, md_rising])), (inA, .inl (cB, NI, .inl gi))] sz) [(md, .inr (12, [md_tape, md_size, md_thrown, md_fault, md_bytes, md_used, md_at, md_length, md_depAt, md_firstChange, md_hashes, md_deps, md_patches, md_sort, md_of, md_fileOf, md_one, md_two, md_nameAt, md_nameSize, md_overAt, md_overCount, md_lineAt, md_lineCount, md_changes, md_overs, md_overTotal, md_lineChange, md_textAt, md_textSize, md_lines, md_fileChange, md_fileLines, md_files, md_sets, md_stamp, md_digest, .ref inA, .int (nI u.2.1), .int (nI n), .int u.2.2, md_dep, md_named, md_depCount, md_own, md_refFile, md_full, md_h, md_counts, md_marked, md_namings, md_namingCount, md_listed, md_listedCount, md_listedStamp, md_member, md_text, md_place, md_dead, md_edge, md_way, md_members, md_textLines, md_unsure, md_workedRepository, md_workedFile, md_workedStamp, md_stack, md_before, md_left, md_made, md_madeSize, md_need, md_needs, md_newAt, md_newSize, md_news, md_common, md_keptAs, md_isNew, md_keptFrom, md_stateOf, md_rising])), (inA, .inl (cB, NI, .inl gi))] t) (va_A [(md, .inr (12, [md_tape, md_size, md_thrown, md_fault, md_bytes, md_used, md_at, md_length, md_depAt, md_firstChange, md_hashes, md_deps, md_patches, md_sort, md_of, md_fileOf, md_one, md_two, md_nameAt, md_nameSize, md_overAt, md_overCount, md_lineAt, md_lineCount, md_changes, md_overs, md_overTotal, md_lineChange, md_textAt, md_textSize, md_lines, md_fileChange, md_fileLines, md_files, md_sets, md_stamp, md_digest, .ref inA, .int (nI k), .int (nI n), .int w, md_dep, md_named, md_depCount, md_own, md_refFile, md_full, md_h, md_counts, md_marked, md_namings, md_namingCount, md_listed, md_listedCount, md_listedStamp, md_member, md_text, md_place, md_dead, md_edge, md_way, md_members, md_textLines, md_unsure, md_workedRepository, md_workedFile, md_workedStamp, md_stack, md_before, md_left, md_made, md_madeSize, md_need, md_needs, md_newAt, md_newSize, md_news, md_common, md_keptAs, md_isNew, md_keptFrom, md_stateOf, md_rising])), (inA, .inl (cB, NI, .inl gi))] sz)) 0 0 (va_A [(md, .inr (12, [md_tape, md_size, md_thrown, md_fault, md_bytes, md_used, md_at, md_length, md_depAt, md_firstChange, md_hashes, md_deps, md_patches, md_sort, md_of, md_fileOf, md_one, md_two, md_nameAt, md_nameSize, md_overAt, md_overCount, md_lineAt, md_lineCount, md_changes, md_overs, md_overTotal, md_lineChange, md_textAt, md_textSize, md_lines, md_fileChange, md_fileLines, md_files, md_sets, md_stamp, md_digest, .ref inA, .int (nI k), .int (nI n), .int w, md_dep, md_named, md_depCount, md_own, md_refFile, md_full, md_h, md_counts, md_marked, md_namings, md_namingCount, md_listed, md_listedCount, md_listedStamp, md_member, md_text, md_place, md_dead, md_edge, md_way, md_members, md_textLines, md_unsure, md_workedRepository, md_workedFile, md_workedStamp, md_stack, md_before, md_left, md_made, md_madeSize, md_need, md_needs, md_newAt, md_newSize, md_news, md_common, md_keptAs, md_isNew, md_keptFrom, md_stateOf, md_rising])), (inA, .inl (cB, NI, .inl gi))] sz) := by
  refine Met.ofW (cc := prog_14_method_10_code) (maxL := 4) (ret := (Option.some Jvm.ClassFile.FieldType.int)) (by decide) rfl ?_
  intro p e s m args below meth c s₁ B hml hv
  obtain ⟨rfl, hsz, hP, hK, hD0⟩ := hv
  have hx := B.exec
  have hb := B.bytes
  have hr := B.returns
  have hts0 := atoms_spec (ws := ws_Md_next) B.pre
  have hts : ∀ w ∈ xg_1, w.before _ s = true := fun w h => hts0 w (List.mem_cons_of_mem _ h)
  have hown : s.vm.findClass "PatchStoreModel" = some m.cls := findClass_of_methodNamed B.named
  have hlocks := B.notSynchronized
  subst hsz
  have hD := hD0.self (sz := s.heap.size)
  generalize hAe : va_A [(md, .inr (12, [md_tape, md_size, md_thrown, md_fault, md_bytes, md_used, md_at, md_length, md_depAt, md_firstChange, md_hashes, md_deps, md_patches, md_sort, md_of, md_fileOf, md_one, md_two, md_nameAt, md_nameSize, md_overAt, md_overCount, md_lineAt, md_lineCount, md_changes, md_overs, md_overTotal, md_lineChange, md_textAt, md_textSize, md_lines, md_fileChange, md_fileLines, md_files, md_sets, md_stamp, md_digest, .ref inA, .int (nI k), .int (nI n), .int w, md_dep, md_named, md_depCount, md_own, md_refFile, md_full, md_h, md_counts, md_marked, md_namings, md_namingCount, md_listed, md_listedCount, md_listedStamp, md_member, md_text, md_place, md_dead, md_edge, md_way, md_members, md_textLines, md_unsure, md_workedRepository, md_workedFile, md_workedStamp, md_stack, md_before, md_left, md_made, md_madeSize, md_need, md_needs, md_newAt, md_newSize, md_news, md_common, md_keptAs, md_isNew, md_keptFrom, md_stateOf, md_rising])), (inA, .inl (cB, NI, .inl gi))] s.heap.size = A at hD ⊢
  have hA : ∀ q : Nat, s.heap.size ≤ q → A q := fun q h => by rw [← hAe]; exact Or.inr h
  have hS : va_S A s.heap s.heap [] := va_S.rf
  have hl := lv_entry ([.ref md, .int 1]) (n := 4) (Nat.le_of_ble_eq_true rfl)
  rw [lg_entry_eq]
  generalize (lg_sl ([.ref md, .int 1]) ++ List.replicate (4 - (lg_sl ([.ref md, .int 1])).length) Slot.unset).toArray = ls at hl ⊢
  have hl : lv_has ls 4 [(0, .ref md), (1, .int 1)] := hl
  refine lv_aload_n hx hb d_Md_next_0 rfl (lv_at hl 0 rfl) ?_
  refine va_get (D := (dC, dI)) (ci := 12) (v := .int (nI n)) (C := R_Md) (T := F_Md) (N := 83) hx hb hts i_Md hown hK hP 0 rfl rfl 39 (by decide) (hts _ gw_1457) (fun _ h9 => h9) rfl d_Md_next_1 ?_
  refine lv_aload_n hx hb d_Md_next_4 rfl (lv_at hl 0 rfl) ?_
  refine va_get (D := (dC, dI)) (ci := 12) (v := .int (nI k)) (C := R_Md) (T := F_Md) (N := 83) hx hb hts i_Md hown hK hP 0 rfl rfl 38 (by decide) (hts _ gw_1456) (fun _ h9 => h9) rfl d_Md_next_5 ?_
  refine lv_isub hx hb d_Md_next_8 ?_
  refine lv_topi (fun x_1 ex_1 => ?_)
  obtain rfl : x_1 = nI (n - k) := by rw [ex_1]; first | done | (exact nI_subN hk)
  refine lv_iload_n hx hb d_Md_next_9 rfl (lv_at hl 1 rfl) ?_
  refine lv_icmp_ge (tgt := 28) hx hb d_Md_next_10 (by decide) (fun c_10 => ?_) (fun c_10 => ?_)
  · have n_10 : 1 ≤ (n - k) := (nI_leI (a := 1) (b := (n - k)) (by omega) (by omega)).mp c_10
    refine lv_iconst (v := 0) hx hb d_Md_next_28 (by decide) ?_
    refine lv_istore_n (lv' := [(2, .int 0), (0, .ref md), (1, .int 1)]) hx hb d_Md_next_29 rfl hl (by decide) rfl (fun ls hl => ?_)
    refine lv_iconst (v := 0) hx hb d_Md_next_30 (by decide) ?_
    refine lv_istore_n (lv' := [(3, .int 0), (2, .int 0), (0, .ref md), (1, .int 1)]) hx hb d_Md_next_31 rfl hl (by decide) rfl (fun ls hl => ?_)
    refine lv_iload_n hx hb d_Md_next_32 rfl (lv_at hl 0 rfl) ?_
    refine lv_iload_n hx hb d_Md_next_33 rfl (lv_at hl 3 rfl) ?_
    refine lv_icmp_ge (tgt := 69) hx hb d_Md_next_34 (by decide) (fun c_34 => absurd c_34 (by decide)) (fun _ => ?_)
    refine lv_iload_n hx hb d_Md_next_37 rfl (lv_at hl 1 rfl) ?_
    refine lv_bipush (v := 8) hx hb d_Md_next_38 (by decide) ?_
    refine lv_ishl hx hb d_Md_next_40 ?_
    refine lv_aload_n hx hb d_Md_next_41 rfl (lv_at hl 2 rfl) ?_
    refine va_get (D := (dC, dI)) (ci := 12) (v := .ref inA) (C := R_Md) (T := F_Md) (N := 83) hx hb hts i_Md hown hK hP 0 rfl rfl 37 (by decide) (hts _ gw_1455) (fun _ h9 => h9) rfl d_Md_next_42 ?_
    refine lv_aload_n hx hb d_Md_next_45 rfl (lv_at hl 2 rfl) ?_
    refine lv_dup hx hb d_Md_next_46 rfl ?_
    refine va_get (D := (dC, dI)) (ci := 12) (v := .int (nI k)) (C := R_Md) (T := F_Md) (N := 83) hx hb hts i_Md hown hK hP 0 rfl rfl 38 (by decide) (hts _ gw_1456) (fun _ h9 => h9) rfl d_Md_next_47 ?_
    refine lv_dup_x1 hx hb d_Md_next_50 rfl rfl ?_
    refine lv_iconst (v := 1) hx hb d_Md_next_51 (by decide) ?_
    refine lv_iadd hx hb d_Md_next_52 ?_
    refine lv_topi (fun x_2 ex_2 => ?_)
    obtain rfl : x_2 = nI (k + 1) := by rw [ex_2]; first | done | (exact nI_add _ _)
    refine va_put (D := (dC, dI)) (ci := 12) (v := .int (nI (k + 1))) (ty := .int) (C := R_Md) (T := F_Md) (N := 83) hx hb hts i_Md t_Md t_Md_ok n_Md hown hK hP hD hS 0 rfl rfl 38 (by decide) (hts _ gw_1456) (fun _ h9 => h9) rfl (by decide +kernel) rfl rfl (Nat.le_of_ble_eq_true rfl) d_Md_next_53 (fun H locs hP hD hS => ?_)
    have hP : va_P (dC, dI) classes [(md, .inr (12, [md_tape, md_size, md_thrown, md_fault, md_bytes, md_used, md_at, md_length, md_depAt, md_firstChange, md_hashes, md_deps, md_patches, md_sort, md_of, md_fileOf, md_one, md_two, md_nameAt, md_nameSize, md_overAt, md_overCount, md_lineAt, md_lineCount, md_changes, md_overs, md_overTotal, md_lineChange, md_textAt, md_textSize, md_lines, md_fileChange, md_fileLines, md_files, md_sets, md_stamp, md_digest, .ref inA, .int (nI (k + 1)), .int (nI n), .int w, md_dep, md_named, md_depCount, md_own, md_refFile, md_full, md_h, md_counts, md_marked, md_namings, md_namingCount, md_listed, md_listedCount, md_listedStamp, md_member, md_text, md_place, md_dead, md_edge, md_way, md_members, md_textLines, md_unsure, md_workedRepository, md_workedFile, md_workedStamp, md_stack, md_before, md_left, md_made, md_madeSize, md_need, md_needs, md_newAt, md_newSize, md_news, md_common, md_keptAs, md_isNew, md_keptFrom, md_stateOf, md_rising])), (inA, .inl (cB, NI, .inl gi))] H := hP
    have hD : va_D A [(md, .inr (12, [md_tape, md_size, md_thrown, md_fault, md_bytes, md_used, md_at, md_length, md_depAt, md_firstChange, md_hashes, md_deps, md_patches, md_sort, md_of, md_fileOf, md_one, md_two, md_nameAt, md_nameSize, md_overAt, md_overCount, md_lineAt, md_lineCount, md_changes, md_overs, md_overTotal, md_lineChange, md_textAt, md_textSize, md_lines, md_fileChange, md_fileLines, md_files, md_sets, md_stamp, md_digest, .ref inA, .int (nI (k + 1)), .int (nI n), .int w, md_dep, md_named, md_depCount, md_own, md_refFile, md_full, md_h, md_counts, md_marked, md_namings, md_namingCount, md_listed, md_listedCount, md_listedStamp, md_member, md_text, md_place, md_dead, md_edge, md_way, md_members, md_textLines, md_unsure, md_workedRepository, md_workedFile, md_workedStamp, md_stack, md_before, md_left, md_made, md_madeSize, md_need, md_needs, md_newAt, md_newSize, md_news, md_common, md_keptAs, md_isNew, md_keptFrom, md_stateOf, md_rising])), (inA, .inl (cB, NI, .inl gi))] := hD
    refine va_bald hx hb hK hP 1 1 rfl rfl (vp_in_nI (by omega) (by omega)) d_Md_next_56 ?_
    rw [show (nI k).toNatClampNeg = k from nI_clamp (by omega)]
    refine lv_sipush (v := 255) hx hb d_Md_next_57 (by decide) ?_
    refine lv_iand hx hb d_Md_next_60 ?_
    refine lv_topi (fun x_3 ex_3 => ?_)
    obtain rfl : x_3 = nI (b8 (f (a0 + k))) := by rw [ex_3]; first | done | (rw [hin _ (by omega)]; exact b8_eq _)
    refine lv_ior hx hb d_Md_next_61 ?_
    refine lv_topi (fun x_4 ex_4 => ?_)
    obtain rfl : x_4 = nI (b8 (f (a0 + k))) := by rw [ex_4]; first | done | (first | exact b8_1 (b8_lt _) | exact b8_two (b8_lt _) (b8_lt _))
    refine lv_istore_n (lv' := [(2, .int (nI (b8 (f (a0 + k))))), (3, .int 0), (0, .ref md), (1, .int 1)]) hx hb d_Md_next_62 rfl hl (by decide) rfl (fun ls hl => ?_)
    refine lv_iinc (v := 1) (lv' := [(3, .int 1), (2, .int (nI (b8 (f (a0 + k))))), (0, .ref md), (1, .int 1)]) hx hb d_Md_next_63 hl (k := 1) rfl (by decide) (by decide) rfl (fun ls hl => ?_)
    refine lv_goto (tgt := 32) hx hb d_Md_next_66 (by decide) ?_
    refine lv_iload_n hx hb d_Md_next_32 rfl (lv_at hl 0 rfl) ?_
    refine lv_iload_n hx hb d_Md_next_33 rfl (lv_at hl 3 rfl) ?_
    refine lv_icmp_ge (tgt := 69) hx hb d_Md_next_34 (by decide) (fun _ => ?_) (fun c_34 => absurd (by decide) c_34)
    refine lv_iload_n hx hb d_Md_next_69 rfl (lv_at hl 1 rfl) ?_
    exact W.iret (v := nI (b8 (f (a0 + k)))) hx hb hr (fun t ht hW => ⟨⟨_, (b8 (f (a0 + k)), k + 1, w), rfl, ⟨rfl, Or.inl ⟨rfl, by omega, rfl, rfl⟩⟩, by rw [ht]; exact hP, va_K.moved hW.alike hK, hD⟩, hS.F ht⟩) hS.2.2 d_Md_next_70
  · have n_10 : (n - k) < 1 := Nat.lt_of_not_le (fun z => c_10 ((nI_leI (a := 1) (b := (n - k)) (by omega) (by omega)).mpr z))
    refine lv_aload_n hx hb d_Md_next_13 rfl (lv_at hl 0 rfl) ?_
    refine lv_iconst (v := 1) hx hb d_Md_next_14 (by decide) ?_
    refine va_put (D := (dC, dI)) (ci := 12) (v := .int 1) (ty := .boolean) (C := R_Md) (T := F_Md) (N := 83) hx hb hts i_Md t_Md t_Md_ok n_Md hown hK hP hD hS 0 rfl rfl 40 (by decide) (hts _ gw_1458) (fun _ h9 => h9) rfl (by decide +kernel) nz_b1 rfl (Nat.le_of_ble_eq_true rfl) d_Md_next_15 (fun H locs hP hD hS => ?_)
    have hP : va_P (dC, dI) classes [(md, .inr (12, [md_tape, md_size, md_thrown, md_fault, md_bytes, md_used, md_at, md_length, md_depAt, md_firstChange, md_hashes, md_deps, md_patches, md_sort, md_of, md_fileOf, md_one, md_two, md_nameAt, md_nameSize, md_overAt, md_overCount, md_lineAt, md_lineCount, md_changes, md_overs, md_overTotal, md_lineChange, md_textAt, md_textSize, md_lines, md_fileChange, md_fileLines, md_files, md_sets, md_stamp, md_digest, .ref inA, .int (nI k), .int (nI n), .int 1, md_dep, md_named, md_depCount, md_own, md_refFile, md_full, md_h, md_counts, md_marked, md_namings, md_namingCount, md_listed, md_listedCount, md_listedStamp, md_member, md_text, md_place, md_dead, md_edge, md_way, md_members, md_textLines, md_unsure, md_workedRepository, md_workedFile, md_workedStamp, md_stack, md_before, md_left, md_made, md_madeSize, md_need, md_needs, md_newAt, md_newSize, md_news, md_common, md_keptAs, md_isNew, md_keptFrom, md_stateOf, md_rising])), (inA, .inl (cB, NI, .inl gi))] H := hP
    have hD : va_D A [(md, .inr (12, [md_tape, md_size, md_thrown, md_fault, md_bytes, md_used, md_at, md_length, md_depAt, md_firstChange, md_hashes, md_deps, md_patches, md_sort, md_of, md_fileOf, md_one, md_two, md_nameAt, md_nameSize, md_overAt, md_overCount, md_lineAt, md_lineCount, md_changes, md_overs, md_overTotal, md_lineChange, md_textAt, md_textSize, md_lines, md_fileChange, md_fileLines, md_files, md_sets, md_stamp, md_digest, .ref inA, .int (nI k), .int (nI n), .int 1, md_dep, md_named, md_depCount, md_own, md_refFile, md_full, md_h, md_counts, md_marked, md_namings, md_namingCount, md_listed, md_listedCount, md_listedStamp, md_member, md_text, md_place, md_dead, md_edge, md_way, md_members, md_textLines, md_unsure, md_workedRepository, md_workedFile, md_workedStamp, md_stack, md_before, md_left, md_made, md_madeSize, md_need, md_needs, md_newAt, md_newSize, md_news, md_common, md_keptAs, md_isNew, md_keptFrom, md_stateOf, md_rising])), (inA, .inl (cB, NI, .inl gi))] := hD
    refine lv_aload_n hx hb d_Md_next_18 rfl (lv_at hl 0 rfl) ?_
    refine lv_aload_n hx hb d_Md_next_19 rfl (lv_at hl 0 rfl) ?_
    refine va_get (D := (dC, dI)) (ci := 12) (v := .int (nI n)) (C := R_Md) (T := F_Md) (N := 83) hx hb hts i_Md hown hK hP 0 rfl rfl 39 (by decide) (hts _ gw_1457) (fun _ h9 => h9) rfl d_Md_next_20 ?_
    refine va_put (D := (dC, dI)) (ci := 12) (v := .int (nI n)) (ty := .int) (C := R_Md) (T := F_Md) (N := 83) hx hb hts i_Md t_Md t_Md_ok n_Md hown hK hP hD hS 0 rfl rfl 38 (by decide) (hts _ gw_1456) (fun _ h9 => h9) rfl (by decide +kernel) rfl rfl (Nat.le_of_ble_eq_true rfl) d_Md_next_23 (fun H locs hP hD hS => ?_)
    have hP : va_P (dC, dI) classes [(md, .inr (12, [md_tape, md_size, md_thrown, md_fault, md_bytes, md_used, md_at, md_length, md_depAt, md_firstChange, md_hashes, md_deps, md_patches, md_sort, md_of, md_fileOf, md_one, md_two, md_nameAt, md_nameSize, md_overAt, md_overCount, md_lineAt, md_lineCount, md_changes, md_overs, md_overTotal, md_lineChange, md_textAt, md_textSize, md_lines, md_fileChange, md_fileLines, md_files, md_sets, md_stamp, md_digest, .ref inA, .int (nI n), .int (nI n), .int 1, md_dep, md_named, md_depCount, md_own, md_refFile, md_full, md_h, md_counts, md_marked, md_namings, md_namingCount, md_listed, md_listedCount, md_listedStamp, md_member, md_text, md_place, md_dead, md_edge, md_way, md_members, md_textLines, md_unsure, md_workedRepository, md_workedFile, md_workedStamp, md_stack, md_before, md_left, md_made, md_madeSize, md_need, md_needs, md_newAt, md_newSize, md_news, md_common, md_keptAs, md_isNew, md_keptFrom, md_stateOf, md_rising])), (inA, .inl (cB, NI, .inl gi))] H := hP
    have hD : va_D A [(md, .inr (12, [md_tape, md_size, md_thrown, md_fault, md_bytes, md_used, md_at, md_length, md_depAt, md_firstChange, md_hashes, md_deps, md_patches, md_sort, md_of, md_fileOf, md_one, md_two, md_nameAt, md_nameSize, md_overAt, md_overCount, md_lineAt, md_lineCount, md_changes, md_overs, md_overTotal, md_lineChange, md_textAt, md_textSize, md_lines, md_fileChange, md_fileLines, md_files, md_sets, md_stamp, md_digest, .ref inA, .int (nI n), .int (nI n), .int 1, md_dep, md_named, md_depCount, md_own, md_refFile, md_full, md_h, md_counts, md_marked, md_namings, md_namingCount, md_listed, md_listedCount, md_listedStamp, md_member, md_text, md_place, md_dead, md_edge, md_way, md_members, md_textLines, md_unsure, md_workedRepository, md_workedFile, md_workedStamp, md_stack, md_before, md_left, md_made, md_madeSize, md_need, md_needs, md_newAt, md_newSize, md_news, md_common, md_keptAs, md_isNew, md_keptFrom, md_stateOf, md_rising])), (inA, .inl (cB, NI, .inl gi))] := hD
    refine lv_iconst (v := 0) hx hb d_Md_next_26 (by decide) ?_
    exact W.iret (v := 0) hx hb hr (fun t ht hW => ⟨⟨_, (0, n, 1), rfl, ⟨rfl, Or.inr ⟨rfl, by omega, rfl, rfl⟩⟩, by rw [ht]; exact hP, va_K.moved hW.alike hK, hD⟩, hS.F ht⟩) hS.2.2 d_Md_next_27
set_option maxHeartbeats 4000000 in
set_option maxRecDepth 100000 in
/-- 2 bytes are read -/
theorem m_Md_next2 (l : Launch) (dC : Nat → ClassId) (dI : Nat → Nat → Nat) (cI cB cL cZ cR : ClassId) (md inA NI : Nat) (md_tape md_size md_thrown md_fault md_bytes md_used md_at md_length md_depAt md_firstChange md_hashes md_deps md_patches md_sort md_of md_fileOf md_one md_two md_nameAt md_nameSize md_overAt md_overCount md_lineAt md_lineCount md_changes md_overs md_overTotal md_lineChange md_textAt md_textSize md_lines md_fileChange md_fileLines md_files md_sets md_stamp md_digest md_dep md_named md_depCount md_own md_refFile md_full md_h md_counts md_marked md_namings md_namingCount md_listed md_listedCount md_listedStamp md_member md_text md_place md_dead md_edge md_way md_members md_textLines md_unsure md_workedRepository md_workedFile md_workedStamp md_stack md_before md_left md_made md_madeSize md_need md_needs md_newAt md_newSize md_news md_common md_keptAs md_isNew md_keptFrom md_stateOf md_rising : Value) (gi f : Nat → Int32) (a0 n k : Nat) (w : Int32) (sz : Nat) (hn : n ≤ NI) (hNI : NI ≤ 200000) (hk : k ≤ n) (hin : ∀ i, i < n → gi i = f (a0 + i)) : Met l y_Md_next ws_Md_next ({ frames := 0, cells := 0, slots := 0, locals := 0 }) (xw_Pc dC dI [(cI, .int), (cB, .byte), (cL, .long), (cZ, .boolean), (cR, .object "PatchStore$Repository")] [.ref md, .int 2] [(md, .inr (12, [md_tape, md_size, md_thrown, md_fault, md_bytes, md_used, md_at, md_length, md_depAt, md_firstChange, md_hashes, md_deps, md_patches, md_sort, md_of, md_fileOf, md_one, md_two, md_nameAt, md_nameSize, md_overAt, md_overCount, md_lineAt, md_lineCount, md_changes, md_overs, md_overTotal, md_lineChange, md_textAt, md_textSize, md_lines, md_fileChange, md_fileLines, md_files, md_sets, md_stamp, md_digest, .ref inA, .int (nI k), .int (nI n), .int w, md_dep, md_named, md_depCount, md_own, md_refFile, md_full, md_h, md_counts, md_marked, md_namings, md_namingCount, md_listed, md_listedCount, md_listedStamp, md_member, md_text, md_place, md_dead, md_edge, md_way, md_members, md_textLines, md_unsure, md_workedRepository, md_workedFile, md_workedStamp, md_stack, md_before, md_left, md_made, md_madeSize, md_need, md_needs, md_newAt, md_newSize, md_news, md_common, md_keptAs, md_isNew, md_keptFrom, md_stateOf, md_rising])), (inA, .inl (cB, NI, .inl gi))] sz) (va_Qi (fun (r : Int32) (u : Nat × Nat × Int32) => (r = nI u.1) ∧ ((u.1 = tw f (a0 + k) ∧ k + 2 ≤ n ∧ u.2.1 = k + 2 ∧ u.2.2 = w) ∨ (u.1 = 0 ∧ n < k + 2 ∧ u.2.1 = n ∧ u.2.2 = 1))) (fun u t => xw_B dC dI [(cI, .int), (cB, .byte), (cL, .long), (cZ, .boolean), (cR, .object "PatchStore$Repository")] (va_A [(md, .inr (12, [md_tape, md_size, md_thrown, md_fault, md_bytes, md_used, md_at, md_length, md_depAt, md_firstChange, md_hashes, md_deps, md_patches, md_sort, md_of, md_fileOf, md_one, md_two, md_nameAt, md_nameSize, md_overAt, md_overCount, md_lineAt, md_lineCount, md_changes, md_overs, md_overTotal, md_lineChange, md_textAt, md_textSize, md_lines, md_fileChange, md_fileLines, md_files, md_sets, md_stamp, md_digest, .ref inA, .int (nI k), .int (nI n), .int w, md_dep, md_named, md_depCount, md_own, md_refFile, md_full, md_h, md_counts, md_marked, md_namings, md_namingCount, md_listed, md_listedCount, md_listedStamp, md_member, md_text, md_place, md_dead, md_edge, md_way, md_members, md_textLines, md_unsure, md_workedRepository, md_workedFile, md_workedStamp, md_stack, md_before, md_left, md_made, md_madeSize, md_need, md_needs, md_newAt, md_newSize, md_news, md_common, md_keptAs, md_isNew, md_keptFrom, md_stateOf, md_rising])), (inA, .inl (cB, NI, .inl gi))] sz) [(md, .inr (12, [md_tape, md_size, md_thrown, md_fault, md_bytes, md_used, md_at, md_length, md_depAt, md_firstChange, md_hashes, md_deps, md_patches, md_sort, md_of, md_fileOf, md_one, md_two, md_nameAt, md_nameSize, md_overAt, md_overCount, md_lineAt, md_lineCount, md_changes, md_overs, md_overTotal, md_lineChange, md_textAt, md_textSize, md_lines, md_fileChange, md_fileLines, md_files, md_sets, md_stamp, md_digest, .ref inA, .int (nI u.2.1), .int (nI n), .int u.2.2, md_dep, md_named, md_depCount, md_own, md_refFile, md_full, md_h, md_counts, md_marked, md_namings, md_namingCount, md_listed, md_listedCount, md_listedStamp, md_member, md_text, md_place, md_dead, md_edge, md_way, md_members, md_textLines, md_unsure, md_workedRepository, md_workedFile, md_workedStamp, md_stack, md_before, md_left, md_made, md_madeSize, md_need, md_needs, md_newAt, md_newSize, md_news, md_common, md_keptAs, md_isNew, md_keptFrom, md_stateOf, md_rising])), (inA, .inl (cB, NI, .inl gi))] t) (va_A [(md, .inr (12, [md_tape, md_size, md_thrown, md_fault, md_bytes, md_used, md_at, md_length, md_depAt, md_firstChange, md_hashes, md_deps, md_patches, md_sort, md_of, md_fileOf, md_one, md_two, md_nameAt, md_nameSize, md_overAt, md_overCount, md_lineAt, md_lineCount, md_changes, md_overs, md_overTotal, md_lineChange, md_textAt, md_textSize, md_lines, md_fileChange, md_fileLines, md_files, md_sets, md_stamp, md_digest, .ref inA, .int (nI k), .int (nI n), .int w, md_dep, md_named, md_depCount, md_own, md_refFile, md_full, md_h, md_counts, md_marked, md_namings, md_namingCount, md_listed, md_listedCount, md_listedStamp, md_member, md_text, md_place, md_dead, md_edge, md_way, md_members, md_textLines, md_unsure, md_workedRepository, md_workedFile, md_workedStamp, md_stack, md_before, md_left, md_made, md_madeSize, md_need, md_needs, md_newAt, md_newSize, md_news, md_common, md_keptAs, md_isNew, md_keptFrom, md_stateOf, md_rising])), (inA, .inl (cB, NI, .inl gi))] sz)) 0 0 (va_A [(md, .inr (12, [md_tape, md_size, md_thrown, md_fault, md_bytes, md_used, md_at, md_length, md_depAt, md_firstChange, md_hashes, md_deps, md_patches, md_sort, md_of, md_fileOf, md_one, md_two, md_nameAt, md_nameSize, md_overAt, md_overCount, md_lineAt, md_lineCount, md_changes, md_overs, md_overTotal, md_lineChange, md_textAt, md_textSize, md_lines, md_fileChange, md_fileLines, md_files, md_sets, md_stamp, md_digest, .ref inA, .int (nI k), .int (nI n), .int w, md_dep, md_named, md_depCount, md_own, md_refFile, md_full, md_h, md_counts, md_marked, md_namings, md_namingCount, md_listed, md_listedCount, md_listedStamp, md_member, md_text, md_place, md_dead, md_edge, md_way, md_members, md_textLines, md_unsure, md_workedRepository, md_workedFile, md_workedStamp, md_stack, md_before, md_left, md_made, md_madeSize, md_need, md_needs, md_newAt, md_newSize, md_news, md_common, md_keptAs, md_isNew, md_keptFrom, md_stateOf, md_rising])), (inA, .inl (cB, NI, .inl gi))] sz) := by
  refine Met.ofW (cc := prog_14_method_10_code) (maxL := 4) (ret := (Option.some Jvm.ClassFile.FieldType.int)) (by decide) rfl ?_
  intro p e s m args below meth c s₁ B hml hv
  obtain ⟨rfl, hsz, hP, hK, hD0⟩ := hv
  have hx := B.exec
  have hb := B.bytes
  have hr := B.returns
  have hts0 := atoms_spec (ws := ws_Md_next) B.pre
  have hts : ∀ w ∈ xg_1, w.before _ s = true := fun w h => hts0 w (List.mem_cons_of_mem _ h)
  have hown : s.vm.findClass "PatchStoreModel" = some m.cls := findClass_of_methodNamed B.named
  have hlocks := B.notSynchronized
  subst hsz
  have hD := hD0.self (sz := s.heap.size)
  generalize hAe : va_A [(md, .inr (12, [md_tape, md_size, md_thrown, md_fault, md_bytes, md_used, md_at, md_length, md_depAt, md_firstChange, md_hashes, md_deps, md_patches, md_sort, md_of, md_fileOf, md_one, md_two, md_nameAt, md_nameSize, md_overAt, md_overCount, md_lineAt, md_lineCount, md_changes, md_overs, md_overTotal, md_lineChange, md_textAt, md_textSize, md_lines, md_fileChange, md_fileLines, md_files, md_sets, md_stamp, md_digest, .ref inA, .int (nI k), .int (nI n), .int w, md_dep, md_named, md_depCount, md_own, md_refFile, md_full, md_h, md_counts, md_marked, md_namings, md_namingCount, md_listed, md_listedCount, md_listedStamp, md_member, md_text, md_place, md_dead, md_edge, md_way, md_members, md_textLines, md_unsure, md_workedRepository, md_workedFile, md_workedStamp, md_stack, md_before, md_left, md_made, md_madeSize, md_need, md_needs, md_newAt, md_newSize, md_news, md_common, md_keptAs, md_isNew, md_keptFrom, md_stateOf, md_rising])), (inA, .inl (cB, NI, .inl gi))] s.heap.size = A at hD ⊢
  have hA : ∀ q : Nat, s.heap.size ≤ q → A q := fun q h => by rw [← hAe]; exact Or.inr h
  have hS : va_S A s.heap s.heap [] := va_S.rf
  have hl := lv_entry ([.ref md, .int 2]) (n := 4) (Nat.le_of_ble_eq_true rfl)
  rw [lg_entry_eq]
  generalize (lg_sl ([.ref md, .int 2]) ++ List.replicate (4 - (lg_sl ([.ref md, .int 2])).length) Slot.unset).toArray = ls at hl ⊢
  have hl : lv_has ls 4 [(0, .ref md), (1, .int 2)] := hl
  refine lv_aload_n hx hb d_Md_next_0 rfl (lv_at hl 0 rfl) ?_
  refine va_get (D := (dC, dI)) (ci := 12) (v := .int (nI n)) (C := R_Md) (T := F_Md) (N := 83) hx hb hts i_Md hown hK hP 0 rfl rfl 39 (by decide) (hts _ gw_1457) (fun _ h9 => h9) rfl d_Md_next_1 ?_
  refine lv_aload_n hx hb d_Md_next_4 rfl (lv_at hl 0 rfl) ?_
  refine va_get (D := (dC, dI)) (ci := 12) (v := .int (nI k)) (C := R_Md) (T := F_Md) (N := 83) hx hb hts i_Md hown hK hP 0 rfl rfl 38 (by decide) (hts _ gw_1456) (fun _ h9 => h9) rfl d_Md_next_5 ?_
  refine lv_isub hx hb d_Md_next_8 ?_
  refine lv_topi (fun x_1 ex_1 => ?_)
  obtain rfl : x_1 = nI (n - k) := by rw [ex_1]; first | done | (exact nI_subN hk)
  refine lv_iload_n hx hb d_Md_next_9 rfl (lv_at hl 1 rfl) ?_
  refine lv_icmp_ge (tgt := 28) hx hb d_Md_next_10 (by decide) (fun c_10 => ?_) (fun c_10 => ?_)
  · have n_10 : 2 ≤ (n - k) := (nI_leI (a := 2) (b := (n - k)) (by omega) (by omega)).mp c_10
    refine lv_iconst (v := 0) hx hb d_Md_next_28 (by decide) ?_
    refine lv_istore_n (lv' := [(2, .int 0), (0, .ref md), (1, .int 2)]) hx hb d_Md_next_29 rfl hl (by decide) rfl (fun ls hl => ?_)
    refine lv_iconst (v := 0) hx hb d_Md_next_30 (by decide) ?_
    refine lv_istore_n (lv' := [(3, .int 0), (2, .int 0), (0, .ref md), (1, .int 2)]) hx hb d_Md_next_31 rfl hl (by decide) rfl (fun ls hl => ?_)
    refine lv_iload_n hx hb d_Md_next_32 rfl (lv_at hl 0 rfl) ?_
    refine lv_iload_n hx hb d_Md_next_33 rfl (lv_at hl 3 rfl) ?_
    refine lv_icmp_ge (tgt := 69) hx hb d_Md_next_34 (by decide) (fun c_34 => absurd c_34 (by decide)) (fun _ => ?_)
    refine lv_iload_n hx hb d_Md_next_37 rfl (lv_at hl 1 rfl) ?_
    refine lv_bipush (v := 8) hx hb d_Md_next_38 (by decide) ?_
    refine lv_ishl hx hb d_Md_next_40 ?_
    refine lv_aload_n hx hb d_Md_next_41 rfl (lv_at hl 2 rfl) ?_
    refine va_get (D := (dC, dI)) (ci := 12) (v := .ref inA) (C := R_Md) (T := F_Md) (N := 83) hx hb hts i_Md hown hK hP 0 rfl rfl 37 (by decide) (hts _ gw_1455) (fun _ h9 => h9) rfl d_Md_next_42 ?_
    refine lv_aload_n hx hb d_Md_next_45 rfl (lv_at hl 2 rfl) ?_
    refine lv_dup hx hb d_Md_next_46 rfl ?_
    refine va_get (D := (dC, dI)) (ci := 12) (v := .int (nI k)) (C := R_Md) (T := F_Md) (N := 83) hx hb hts i_Md hown hK hP 0 rfl rfl 38 (by decide) (hts _ gw_1456) (fun _ h9 => h9) rfl d_Md_next_47 ?_
    refine lv_dup_x1 hx hb d_Md_next_50 rfl rfl ?_
    refine lv_iconst (v := 1) hx hb d_Md_next_51 (by decide) ?_
    refine lv_iadd hx hb d_Md_next_52 ?_
    refine lv_topi (fun x_2 ex_2 => ?_)
    obtain rfl : x_2 = nI (k + 1) := by rw [ex_2]; first | done | (exact nI_add _ _)
    refine va_put (D := (dC, dI)) (ci := 12) (v := .int (nI (k + 1))) (ty := .int) (C := R_Md) (T := F_Md) (N := 83) hx hb hts i_Md t_Md t_Md_ok n_Md hown hK hP hD hS 0 rfl rfl 38 (by decide) (hts _ gw_1456) (fun _ h9 => h9) rfl (by decide +kernel) rfl rfl (Nat.le_of_ble_eq_true rfl) d_Md_next_53 (fun H locs hP hD hS => ?_)
    have hP : va_P (dC, dI) classes [(md, .inr (12, [md_tape, md_size, md_thrown, md_fault, md_bytes, md_used, md_at, md_length, md_depAt, md_firstChange, md_hashes, md_deps, md_patches, md_sort, md_of, md_fileOf, md_one, md_two, md_nameAt, md_nameSize, md_overAt, md_overCount, md_lineAt, md_lineCount, md_changes, md_overs, md_overTotal, md_lineChange, md_textAt, md_textSize, md_lines, md_fileChange, md_fileLines, md_files, md_sets, md_stamp, md_digest, .ref inA, .int (nI (k + 1)), .int (nI n), .int w, md_dep, md_named, md_depCount, md_own, md_refFile, md_full, md_h, md_counts, md_marked, md_namings, md_namingCount, md_listed, md_listedCount, md_listedStamp, md_member, md_text, md_place, md_dead, md_edge, md_way, md_members, md_textLines, md_unsure, md_workedRepository, md_workedFile, md_workedStamp, md_stack, md_before, md_left, md_made, md_madeSize, md_need, md_needs, md_newAt, md_newSize, md_news, md_common, md_keptAs, md_isNew, md_keptFrom, md_stateOf, md_rising])), (inA, .inl (cB, NI, .inl gi))] H := hP
    have hD : va_D A [(md, .inr (12, [md_tape, md_size, md_thrown, md_fault, md_bytes, md_used, md_at, md_length, md_depAt, md_firstChange, md_hashes, md_deps, md_patches, md_sort, md_of, md_fileOf, md_one, md_two, md_nameAt, md_nameSize, md_overAt, md_overCount, md_lineAt, md_lineCount, md_changes, md_overs, md_overTotal, md_lineChange, md_textAt, md_textSize, md_lines, md_fileChange, md_fileLines, md_files, md_sets, md_stamp, md_digest, .ref inA, .int (nI (k + 1)), .int (nI n), .int w, md_dep, md_named, md_depCount, md_own, md_refFile, md_full, md_h, md_counts, md_marked, md_namings, md_namingCount, md_listed, md_listedCount, md_listedStamp, md_member, md_text, md_place, md_dead, md_edge, md_way, md_members, md_textLines, md_unsure, md_workedRepository, md_workedFile, md_workedStamp, md_stack, md_before, md_left, md_made, md_madeSize, md_need, md_needs, md_newAt, md_newSize, md_news, md_common, md_keptAs, md_isNew, md_keptFrom, md_stateOf, md_rising])), (inA, .inl (cB, NI, .inl gi))] := hD
    refine va_bald hx hb hK hP 1 1 rfl rfl (vp_in_nI (by omega) (by omega)) d_Md_next_56 ?_
    rw [show (nI k).toNatClampNeg = k from nI_clamp (by omega)]
    refine lv_sipush (v := 255) hx hb d_Md_next_57 (by decide) ?_
    refine lv_iand hx hb d_Md_next_60 ?_
    refine lv_topi (fun x_3 ex_3 => ?_)
    obtain rfl : x_3 = nI (b8 (f (a0 + k))) := by rw [ex_3]; first | done | (rw [hin _ (by omega)]; exact b8_eq _)
    refine lv_ior hx hb d_Md_next_61 ?_
    refine lv_topi (fun x_4 ex_4 => ?_)
    obtain rfl : x_4 = nI (b8 (f (a0 + k))) := by rw [ex_4]; first | done | (first | exact b8_1 (b8_lt _) | exact b8_two (b8_lt _) (b8_lt _))
    refine lv_istore_n (lv' := [(2, .int (nI (b8 (f (a0 + k))))), (3, .int 0), (0, .ref md), (1, .int 2)]) hx hb d_Md_next_62 rfl hl (by decide) rfl (fun ls hl => ?_)
    refine lv_iinc (v := 1) (lv' := [(3, .int 1), (2, .int (nI (b8 (f (a0 + k))))), (0, .ref md), (1, .int 2)]) hx hb d_Md_next_63 hl (k := 1) rfl (by decide) (by decide) rfl (fun ls hl => ?_)
    refine lv_goto (tgt := 32) hx hb d_Md_next_66 (by decide) ?_
    refine lv_iload_n hx hb d_Md_next_32 rfl (lv_at hl 0 rfl) ?_
    refine lv_iload_n hx hb d_Md_next_33 rfl (lv_at hl 3 rfl) ?_
    refine lv_icmp_ge (tgt := 69) hx hb d_Md_next_34 (by decide) (fun c_34 => absurd c_34 (by decide)) (fun _ => ?_)
    refine lv_iload_n hx hb d_Md_next_37 rfl (lv_at hl 1 rfl) ?_
    refine lv_bipush (v := 8) hx hb d_Md_next_38 (by decide) ?_
    refine lv_ishl hx hb d_Md_next_40 ?_
    refine lv_aload_n hx hb d_Md_next_41 rfl (lv_at hl 2 rfl) ?_
    refine va_get (D := (dC, dI)) (ci := 12) (v := .ref inA) (C := R_Md) (T := F_Md) (N := 83) hx hb hts i_Md hown hK hP 0 rfl rfl 37 (by decide) (hts _ gw_1455) (fun _ h9 => h9) rfl d_Md_next_42 ?_
    refine lv_aload_n hx hb d_Md_next_45 rfl (lv_at hl 2 rfl) ?_
    refine lv_dup hx hb d_Md_next_46 rfl ?_
    refine va_get (D := (dC, dI)) (ci := 12) (v := .int (nI (k + 1))) (C := R_Md) (T := F_Md) (N := 83) hx hb hts i_Md hown hK hP 0 rfl rfl 38 (by decide) (hts _ gw_1456) (fun _ h9 => h9) rfl d_Md_next_47 ?_
    refine lv_dup_x1 hx hb d_Md_next_50 rfl rfl ?_
    refine lv_iconst (v := 1) hx hb d_Md_next_51 (by decide) ?_
    refine lv_iadd hx hb d_Md_next_52 ?_
    refine lv_topi (fun x_5 ex_5 => ?_)
    obtain rfl : x_5 = nI (k + 1 + 1) := by rw [ex_5]; first | done | (exact nI_add _ _)
    refine va_put (D := (dC, dI)) (ci := 12) (v := .int (nI (k + 1 + 1))) (ty := .int) (C := R_Md) (T := F_Md) (N := 83) hx hb hts i_Md t_Md t_Md_ok n_Md hown hK hP hD hS 0 rfl rfl 38 (by decide) (hts _ gw_1456) (fun _ h9 => h9) rfl (by decide +kernel) rfl rfl (Nat.le_of_ble_eq_true rfl) d_Md_next_53 (fun H locs hP hD hS => ?_)
    have hP : va_P (dC, dI) classes [(md, .inr (12, [md_tape, md_size, md_thrown, md_fault, md_bytes, md_used, md_at, md_length, md_depAt, md_firstChange, md_hashes, md_deps, md_patches, md_sort, md_of, md_fileOf, md_one, md_two, md_nameAt, md_nameSize, md_overAt, md_overCount, md_lineAt, md_lineCount, md_changes, md_overs, md_overTotal, md_lineChange, md_textAt, md_textSize, md_lines, md_fileChange, md_fileLines, md_files, md_sets, md_stamp, md_digest, .ref inA, .int (nI (k + 1 + 1)), .int (nI n), .int w, md_dep, md_named, md_depCount, md_own, md_refFile, md_full, md_h, md_counts, md_marked, md_namings, md_namingCount, md_listed, md_listedCount, md_listedStamp, md_member, md_text, md_place, md_dead, md_edge, md_way, md_members, md_textLines, md_unsure, md_workedRepository, md_workedFile, md_workedStamp, md_stack, md_before, md_left, md_made, md_madeSize, md_need, md_needs, md_newAt, md_newSize, md_news, md_common, md_keptAs, md_isNew, md_keptFrom, md_stateOf, md_rising])), (inA, .inl (cB, NI, .inl gi))] H := hP
    have hD : va_D A [(md, .inr (12, [md_tape, md_size, md_thrown, md_fault, md_bytes, md_used, md_at, md_length, md_depAt, md_firstChange, md_hashes, md_deps, md_patches, md_sort, md_of, md_fileOf, md_one, md_two, md_nameAt, md_nameSize, md_overAt, md_overCount, md_lineAt, md_lineCount, md_changes, md_overs, md_overTotal, md_lineChange, md_textAt, md_textSize, md_lines, md_fileChange, md_fileLines, md_files, md_sets, md_stamp, md_digest, .ref inA, .int (nI (k + 1 + 1)), .int (nI n), .int w, md_dep, md_named, md_depCount, md_own, md_refFile, md_full, md_h, md_counts, md_marked, md_namings, md_namingCount, md_listed, md_listedCount, md_listedStamp, md_member, md_text, md_place, md_dead, md_edge, md_way, md_members, md_textLines, md_unsure, md_workedRepository, md_workedFile, md_workedStamp, md_stack, md_before, md_left, md_made, md_madeSize, md_need, md_needs, md_newAt, md_newSize, md_news, md_common, md_keptAs, md_isNew, md_keptFrom, md_stateOf, md_rising])), (inA, .inl (cB, NI, .inl gi))] := hD
    refine va_bald hx hb hK hP 1 1 rfl rfl (vp_in_nI (by omega) (by omega)) d_Md_next_56 ?_
    rw [show (nI (k + 1)).toNatClampNeg = (k + 1) from nI_clamp (by omega)]
    refine lv_sipush (v := 255) hx hb d_Md_next_57 (by decide) ?_
    refine lv_iand hx hb d_Md_next_60 ?_
    refine lv_topi (fun x_6 ex_6 => ?_)
    obtain rfl : x_6 = nI (b8 (f (a0 + k + 1))) := by rw [ex_6]; first | done | (rw [hin _ (by omega)]; exact b8_eq _)
    refine lv_ior hx hb d_Md_next_61 ?_
    refine lv_topi (fun x_7 ex_7 => ?_)
    obtain rfl : x_7 = nI (tw f (a0 + k)) := by rw [ex_7]; first | done | (first | exact b8_1 (b8_lt _) | exact b8_two (b8_lt _) (b8_lt _))
    refine lv_istore_n (lv' := [(2, .int (nI (tw f (a0 + k)))), (3, .int 1), (0, .ref md), (1, .int 2)]) hx hb d_Md_next_62 rfl hl (by decide) rfl (fun ls hl => ?_)
    refine lv_iinc (v := 2) (lv' := [(3, .int 2), (2, .int (nI (tw f (a0 + k)))), (0, .ref md), (1, .int 2)]) hx hb d_Md_next_63 hl (k := 1) rfl (by decide) (by decide) rfl (fun ls hl => ?_)
    refine lv_goto (tgt := 32) hx hb d_Md_next_66 (by decide) ?_
    refine lv_iload_n hx hb d_Md_next_32 rfl (lv_at hl 0 rfl) ?_
    refine lv_iload_n hx hb d_Md_next_33 rfl (lv_at hl 3 rfl) ?_
    refine lv_icmp_ge (tgt := 69) hx hb d_Md_next_34 (by decide) (fun _ => ?_) (fun c_34 => absurd (by decide) c_34)
    refine lv_iload_n hx hb d_Md_next_69 rfl (lv_at hl 1 rfl) ?_
    exact W.iret (v := nI (tw f (a0 + k))) hx hb hr (fun t ht hW => ⟨⟨_, (tw f (a0 + k), k + 2, w), rfl, ⟨rfl, Or.inl ⟨rfl, by omega, rfl, rfl⟩⟩, by rw [ht]; exact hP, va_K.moved hW.alike hK, hD⟩, hS.F ht⟩) hS.2.2 d_Md_next_70
  · have n_10 : (n - k) < 2 := Nat.lt_of_not_le (fun z => c_10 ((nI_leI (a := 2) (b := (n - k)) (by omega) (by omega)).mpr z))
    refine lv_aload_n hx hb d_Md_next_13 rfl (lv_at hl 0 rfl) ?_
    refine lv_iconst (v := 1) hx hb d_Md_next_14 (by decide) ?_
    refine va_put (D := (dC, dI)) (ci := 12) (v := .int 1) (ty := .boolean) (C := R_Md) (T := F_Md) (N := 83) hx hb hts i_Md t_Md t_Md_ok n_Md hown hK hP hD hS 0 rfl rfl 40 (by decide) (hts _ gw_1458) (fun _ h9 => h9) rfl (by decide +kernel) nz_b1 rfl (Nat.le_of_ble_eq_true rfl) d_Md_next_15 (fun H locs hP hD hS => ?_)
    have hP : va_P (dC, dI) classes [(md, .inr (12, [md_tape, md_size, md_thrown, md_fault, md_bytes, md_used, md_at, md_length, md_depAt, md_firstChange, md_hashes, md_deps, md_patches, md_sort, md_of, md_fileOf, md_one, md_two, md_nameAt, md_nameSize, md_overAt, md_overCount, md_lineAt, md_lineCount, md_changes, md_overs, md_overTotal, md_lineChange, md_textAt, md_textSize, md_lines, md_fileChange, md_fileLines, md_files, md_sets, md_stamp, md_digest, .ref inA, .int (nI k), .int (nI n), .int 1, md_dep, md_named, md_depCount, md_own, md_refFile, md_full, md_h, md_counts, md_marked, md_namings, md_namingCount, md_listed, md_listedCount, md_listedStamp, md_member, md_text, md_place, md_dead, md_edge, md_way, md_members, md_textLines, md_unsure, md_workedRepository, md_workedFile, md_workedStamp, md_stack, md_before, md_left, md_made, md_madeSize, md_need, md_needs, md_newAt, md_newSize, md_news, md_common, md_keptAs, md_isNew, md_keptFrom, md_stateOf, md_rising])), (inA, .inl (cB, NI, .inl gi))] H := hP
    have hD : va_D A [(md, .inr (12, [md_tape, md_size, md_thrown, md_fault, md_bytes, md_used, md_at, md_length, md_depAt, md_firstChange, md_hashes, md_deps, md_patches, md_sort, md_of, md_fileOf, md_one, md_two, md_nameAt, md_nameSize, md_overAt, md_overCount, md_lineAt, md_lineCount, md_changes, md_overs, md_overTotal, md_lineChange, md_textAt, md_textSize, md_lines, md_fileChange, md_fileLines, md_files, md_sets, md_stamp, md_digest, .ref inA, .int (nI k), .int (nI n), .int 1, md_dep, md_named, md_depCount, md_own, md_refFile, md_full, md_h, md_counts, md_marked, md_namings, md_namingCount, md_listed, md_listedCount, md_listedStamp, md_member, md_text, md_place, md_dead, md_edge, md_way, md_members, md_textLines, md_unsure, md_workedRepository, md_workedFile, md_workedStamp, md_stack, md_before, md_left, md_made, md_madeSize, md_need, md_needs, md_newAt, md_newSize, md_news, md_common, md_keptAs, md_isNew, md_keptFrom, md_stateOf, md_rising])), (inA, .inl (cB, NI, .inl gi))] := hD
    refine lv_aload_n hx hb d_Md_next_18 rfl (lv_at hl 0 rfl) ?_
    refine lv_aload_n hx hb d_Md_next_19 rfl (lv_at hl 0 rfl) ?_
    refine va_get (D := (dC, dI)) (ci := 12) (v := .int (nI n)) (C := R_Md) (T := F_Md) (N := 83) hx hb hts i_Md hown hK hP 0 rfl rfl 39 (by decide) (hts _ gw_1457) (fun _ h9 => h9) rfl d_Md_next_20 ?_
    refine va_put (D := (dC, dI)) (ci := 12) (v := .int (nI n)) (ty := .int) (C := R_Md) (T := F_Md) (N := 83) hx hb hts i_Md t_Md t_Md_ok n_Md hown hK hP hD hS 0 rfl rfl 38 (by decide) (hts _ gw_1456) (fun _ h9 => h9) rfl (by decide +kernel) rfl rfl (Nat.le_of_ble_eq_true rfl) d_Md_next_23 (fun H locs hP hD hS => ?_)
    have hP : va_P (dC, dI) classes [(md, .inr (12, [md_tape, md_size, md_thrown, md_fault, md_bytes, md_used, md_at, md_length, md_depAt, md_firstChange, md_hashes, md_deps, md_patches, md_sort, md_of, md_fileOf, md_one, md_two, md_nameAt, md_nameSize, md_overAt, md_overCount, md_lineAt, md_lineCount, md_changes, md_overs, md_overTotal, md_lineChange, md_textAt, md_textSize, md_lines, md_fileChange, md_fileLines, md_files, md_sets, md_stamp, md_digest, .ref inA, .int (nI n), .int (nI n), .int 1, md_dep, md_named, md_depCount, md_own, md_refFile, md_full, md_h, md_counts, md_marked, md_namings, md_namingCount, md_listed, md_listedCount, md_listedStamp, md_member, md_text, md_place, md_dead, md_edge, md_way, md_members, md_textLines, md_unsure, md_workedRepository, md_workedFile, md_workedStamp, md_stack, md_before, md_left, md_made, md_madeSize, md_need, md_needs, md_newAt, md_newSize, md_news, md_common, md_keptAs, md_isNew, md_keptFrom, md_stateOf, md_rising])), (inA, .inl (cB, NI, .inl gi))] H := hP
    have hD : va_D A [(md, .inr (12, [md_tape, md_size, md_thrown, md_fault, md_bytes, md_used, md_at, md_length, md_depAt, md_firstChange, md_hashes, md_deps, md_patches, md_sort, md_of, md_fileOf, md_one, md_two, md_nameAt, md_nameSize, md_overAt, md_overCount, md_lineAt, md_lineCount, md_changes, md_overs, md_overTotal, md_lineChange, md_textAt, md_textSize, md_lines, md_fileChange, md_fileLines, md_files, md_sets, md_stamp, md_digest, .ref inA, .int (nI n), .int (nI n), .int 1, md_dep, md_named, md_depCount, md_own, md_refFile, md_full, md_h, md_counts, md_marked, md_namings, md_namingCount, md_listed, md_listedCount, md_listedStamp, md_member, md_text, md_place, md_dead, md_edge, md_way, md_members, md_textLines, md_unsure, md_workedRepository, md_workedFile, md_workedStamp, md_stack, md_before, md_left, md_made, md_madeSize, md_need, md_needs, md_newAt, md_newSize, md_news, md_common, md_keptAs, md_isNew, md_keptFrom, md_stateOf, md_rising])), (inA, .inl (cB, NI, .inl gi))] := hD
    refine lv_iconst (v := 0) hx hb d_Md_next_26 (by decide) ?_
    exact W.iret (v := 0) hx hb hr (fun t ht hW => ⟨⟨_, (0, n, 1), rfl, ⟨rfl, Or.inr ⟨rfl, by omega, rfl, rfl⟩⟩, by rw [ht]; exact hP, va_K.moved hW.alike hK, hD⟩, hS.F ht⟩) hS.2.2 d_Md_next_27
set_option maxHeartbeats 4000000 in
set_option maxRecDepth 100000 in
/-- bytes are passed over -/
theorem m_Md_skip (l : Launch) (dC : Nat → ClassId) (dI : Nat → Nat → Nat) (cI cB cL cZ cR : ClassId) (md inA NI : Nat) (md_tape md_size md_thrown md_fault md_bytes md_used md_at md_length md_depAt md_firstChange md_hashes md_deps md_patches md_sort md_of md_fileOf md_one md_two md_nameAt md_nameSize md_overAt md_overCount md_lineAt md_lineCount md_changes md_overs md_overTotal md_lineChange md_textAt md_textSize md_lines md_fileChange md_fileLines md_files md_sets md_stamp md_digest md_dep md_named md_depCount md_own md_refFile md_full md_h md_counts md_marked md_namings md_namingCount md_listed md_listedCount md_listedStamp md_member md_text md_place md_dead md_edge md_way md_members md_textLines md_unsure md_workedRepository md_workedFile md_workedStamp md_stack md_before md_left md_made md_madeSize md_need md_needs md_newAt md_newSize md_news md_common md_keptAs md_isNew md_keptFrom md_stateOf md_rising : Value) (gi f : Nat → Int32) (a0 n k x : Nat) (w : Int32) (sz : Nat) (hn : n ≤ NI) (hNI : NI ≤ 200000) (hk : k ≤ n) (hin : ∀ i, i < n → gi i = f (a0 + i)) (hx9 : x < 300000) : Met l y_Md_skip ws_Md_skip ({ frames := 0, cells := 0, slots := 0, locals := 0 }) (xw_Pc dC dI [(cI, .int), (cB, .byte), (cL, .long), (cZ, .boolean), (cR, .object "PatchStore$Repository")] [.ref md, .int (nI x)] [(md, .inr (12, [md_tape, md_size, md_thrown, md_fault, md_bytes, md_used, md_at, md_length, md_depAt, md_firstChange, md_hashes, md_deps, md_patches, md_sort, md_of, md_fileOf, md_one, md_two, md_nameAt, md_nameSize, md_overAt, md_overCount, md_lineAt, md_lineCount, md_changes, md_overs, md_overTotal, md_lineChange, md_textAt, md_textSize, md_lines, md_fileChange, md_fileLines, md_files, md_sets, md_stamp, md_digest, .ref inA, .int (nI k), .int (nI n), .int w, md_dep, md_named, md_depCount, md_own, md_refFile, md_full, md_h, md_counts, md_marked, md_namings, md_namingCount, md_listed, md_listedCount, md_listedStamp, md_member, md_text, md_place, md_dead, md_edge, md_way, md_members, md_textLines, md_unsure, md_workedRepository, md_workedFile, md_workedStamp, md_stack, md_before, md_left, md_made, md_madeSize, md_need, md_needs, md_newAt, md_newSize, md_news, md_common, md_keptAs, md_isNew, md_keptFrom, md_stateOf, md_rising])), (inA, .inl (cB, NI, .inl gi))] sz) (va_Qv (fun u : Nat × Int32 => prs n k w u.1 u.2 (fun b => k + x ≤ n ∧ b = k + x)) (fun u t => xw_B dC dI [(cI, .int), (cB, .byte), (cL, .long), (cZ, .boolean), (cR, .object "PatchStore$Repository")] (va_A [(md, .inr (12, [md_tape, md_size, md_thrown, md_fault, md_bytes, md_used, md_at, md_length, md_depAt, md_firstChange, md_hashes, md_deps, md_patches, md_sort, md_of, md_fileOf, md_one, md_two, md_nameAt, md_nameSize, md_overAt, md_overCount, md_lineAt, md_lineCount, md_changes, md_overs, md_overTotal, md_lineChange, md_textAt, md_textSize, md_lines, md_fileChange, md_fileLines, md_files, md_sets, md_stamp, md_digest, .ref inA, .int (nI k), .int (nI n), .int w, md_dep, md_named, md_depCount, md_own, md_refFile, md_full, md_h, md_counts, md_marked, md_namings, md_namingCount, md_listed, md_listedCount, md_listedStamp, md_member, md_text, md_place, md_dead, md_edge, md_way, md_members, md_textLines, md_unsure, md_workedRepository, md_workedFile, md_workedStamp, md_stack, md_before, md_left, md_made, md_madeSize, md_need, md_needs, md_newAt, md_newSize, md_news, md_common, md_keptAs, md_isNew, md_keptFrom, md_stateOf, md_rising])), (inA, .inl (cB, NI, .inl gi))] sz) [(md, .inr (12, [md_tape, md_size, md_thrown, md_fault, md_bytes, md_used, md_at, md_length, md_depAt, md_firstChange, md_hashes, md_deps, md_patches, md_sort, md_of, md_fileOf, md_one, md_two, md_nameAt, md_nameSize, md_overAt, md_overCount, md_lineAt, md_lineCount, md_changes, md_overs, md_overTotal, md_lineChange, md_textAt, md_textSize, md_lines, md_fileChange, md_fileLines, md_files, md_sets, md_stamp, md_digest, .ref inA, .int (nI u.1), .int (nI n), .int u.2, md_dep, md_named, md_depCount, md_own, md_refFile, md_full, md_h, md_counts, md_marked, md_namings, md_namingCount, md_listed, md_listedCount, md_listedStamp, md_member, md_text, md_place, md_dead, md_edge, md_way, md_members, md_textLines, md_unsure, md_workedRepository, md_workedFile, md_workedStamp, md_stack, md_before, md_left, md_made, md_madeSize, md_need, md_needs, md_newAt, md_newSize, md_news, md_common, md_keptAs, md_isNew, md_keptFrom, md_stateOf, md_rising])), (inA, .inl (cB, NI, .inl gi))] t) (va_A [(md, .inr (12, [md_tape, md_size, md_thrown, md_fault, md_bytes, md_used, md_at, md_length, md_depAt, md_firstChange, md_hashes, md_deps, md_patches, md_sort, md_of, md_fileOf, md_one, md_two, md_nameAt, md_nameSize, md_overAt, md_overCount, md_lineAt, md_lineCount, md_changes, md_overs, md_overTotal, md_lineChange, md_textAt, md_textSize, md_lines, md_fileChange, md_fileLines, md_files, md_sets, md_stamp, md_digest, .ref inA, .int (nI k), .int (nI n), .int w, md_dep, md_named, md_depCount, md_own, md_refFile, md_full, md_h, md_counts, md_marked, md_namings, md_namingCount, md_listed, md_listedCount, md_listedStamp, md_member, md_text, md_place, md_dead, md_edge, md_way, md_members, md_textLines, md_unsure, md_workedRepository, md_workedFile, md_workedStamp, md_stack, md_before, md_left, md_made, md_madeSize, md_need, md_needs, md_newAt, md_newSize, md_news, md_common, md_keptAs, md_isNew, md_keptFrom, md_stateOf, md_rising])), (inA, .inl (cB, NI, .inl gi))] sz)) 0 0 (va_A [(md, .inr (12, [md_tape, md_size, md_thrown, md_fault, md_bytes, md_used, md_at, md_length, md_depAt, md_firstChange, md_hashes, md_deps, md_patches, md_sort, md_of, md_fileOf, md_one, md_two, md_nameAt, md_nameSize, md_overAt, md_overCount, md_lineAt, md_lineCount, md_changes, md_overs, md_overTotal, md_lineChange, md_textAt, md_textSize, md_lines, md_fileChange, md_fileLines, md_files, md_sets, md_stamp, md_digest, .ref inA, .int (nI k), .int (nI n), .int w, md_dep, md_named, md_depCount, md_own, md_refFile, md_full, md_h, md_counts, md_marked, md_namings, md_namingCount, md_listed, md_listedCount, md_listedStamp, md_member, md_text, md_place, md_dead, md_edge, md_way, md_members, md_textLines, md_unsure, md_workedRepository, md_workedFile, md_workedStamp, md_stack, md_before, md_left, md_made, md_madeSize, md_need, md_needs, md_newAt, md_newSize, md_news, md_common, md_keptAs, md_isNew, md_keptFrom, md_stateOf, md_rising])), (inA, .inl (cB, NI, .inl gi))] sz) := by
  refine Met.ofW (cc := prog_14_method_11_code) (maxL := 2) (ret := none) (by decide) rfl ?_
  intro p e s m args below meth c s₁ B hml hv
  obtain ⟨rfl, hsz, hP, hK, hD0⟩ := hv
  have hx := B.exec
  have hb := B.bytes
  have hr := B.returns
  have hts0 := atoms_spec (ws := ws_Md_skip) B.pre
  have hts : ∀ w ∈ xg_1, w.before _ s = true := fun w h => hts0 w (List.mem_cons_of_mem _ h)
  have hown : s.vm.findClass "PatchStoreModel" = some m.cls := findClass_of_methodNamed B.named
  have hlocks := B.notSynchronized
  subst hsz
  have hD := hD0.self (sz := s.heap.size)
  generalize hAe : va_A [(md, .inr (12, [md_tape, md_size, md_thrown, md_fault, md_bytes, md_used, md_at, md_length, md_depAt, md_firstChange, md_hashes, md_deps, md_patches, md_sort, md_of, md_fileOf, md_one, md_two, md_nameAt, md_nameSize, md_overAt, md_overCount, md_lineAt, md_lineCount, md_changes, md_overs, md_overTotal, md_lineChange, md_textAt, md_textSize, md_lines, md_fileChange, md_fileLines, md_files, md_sets, md_stamp, md_digest, .ref inA, .int (nI k), .int (nI n), .int w, md_dep, md_named, md_depCount, md_own, md_refFile, md_full, md_h, md_counts, md_marked, md_namings, md_namingCount, md_listed, md_listedCount, md_listedStamp, md_member, md_text, md_place, md_dead, md_edge, md_way, md_members, md_textLines, md_unsure, md_workedRepository, md_workedFile, md_workedStamp, md_stack, md_before, md_left, md_made, md_madeSize, md_need, md_needs, md_newAt, md_newSize, md_news, md_common, md_keptAs, md_isNew, md_keptFrom, md_stateOf, md_rising])), (inA, .inl (cB, NI, .inl gi))] s.heap.size = A at hD ⊢
  have hA : ∀ q : Nat, s.heap.size ≤ q → A q := fun q h => by rw [← hAe]; exact Or.inr h
  have hS : va_S A s.heap s.heap [] := va_S.rf
  have hl := lv_entry ([.ref md, .int (nI x)]) (n := 2) (Nat.le_of_ble_eq_true rfl)
  rw [lg_entry_eq]
  generalize (lg_sl ([.ref md, .int (nI x)]) ++ List.replicate (2 - (lg_sl ([.ref md, .int (nI x)])).length) Slot.unset).toArray = ls at hl ⊢
  have hl : lv_has ls 2 [(0, .ref md), (1, .int (nI x))] := hl
  refine lv_aload_n hx hb d_Md_skip_0 rfl (lv_at hl 0 rfl) ?_
  refine va_get (D := (dC, dI)) (ci := 12) (v := .int (nI n)) (C := R_Md) (T := F_Md) (N := 83) hx hb hts i_Md hown hK hP 0 rfl rfl 39 (by decide) (hts _ gw_1457) (fun _ h9 => h9) rfl d_Md_skip_1 ?_
  refine lv_aload_n hx hb d_Md_skip_4 rfl (lv_at hl 0 rfl) ?_
  refine va_get (D := (dC, dI)) (ci := 12) (v := .int (nI k)) (C := R_Md) (T := F_Md) (N := 83) hx hb hts i_Md hown hK hP 0 rfl rfl 38 (by decide) (hts _ gw_1456) (fun _ h9 => h9) rfl d_Md_skip_5 ?_
  refine lv_isub hx hb d_Md_skip_8 ?_
  refine lv_topi (fun x_1 ex_1 => ?_)
  obtain rfl : x_1 = nI (n - k) := by rw [ex_1]; first | done | (exact nI_subN hk)
  refine lv_iload_n hx hb d_Md_skip_9 rfl (lv_at hl 1 rfl) ?_
  refine lv_icmp_ge (tgt := 29) hx hb d_Md_skip_10 (by decide) (fun c_10 => ?_) (fun c_10 => ?_)
  · have n_10 : x ≤ (n - k) := (nI_leI (a := x) (b := (n - k)) (by omega) (by omega)).mp c_10
    refine lv_aload_n hx hb d_Md_skip_29 rfl (lv_at hl 0 rfl) ?_
    refine lv_dup hx hb d_Md_skip_30 rfl ?_
    refine va_get (D := (dC, dI)) (ci := 12) (v := .int (nI k)) (C := R_Md) (T := F_Md) (N := 83) hx hb hts i_Md hown hK hP 0 rfl rfl 38 (by decide) (hts _ gw_1456) (fun _ h9 => h9) rfl d_Md_skip_31 ?_
    refine lv_iload_n hx hb d_Md_skip_34 rfl (lv_at hl 1 rfl) ?_
    refine lv_iadd hx hb d_Md_skip_35 ?_
    refine lv_topi (fun x_2 ex_2 => ?_)
    obtain rfl : x_2 = nI (k + x) := by rw [ex_2]; first | done | (exact nI_add _ _)
    refine va_put (D := (dC, dI)) (ci := 12) (v := .int (nI (k + x))) (ty := .int) (C := R_Md) (T := F_Md) (N := 83) hx hb hts i_Md t_Md t_Md_ok n_Md hown hK hP hD hS 0 rfl rfl 38 (by decide) (hts _ gw_1456) (fun _ h9 => h9) rfl (by decide +kernel) rfl rfl (Nat.le_of_ble_eq_true rfl) d_Md_skip_36 (fun H locs hP hD hS => ?_)
    have hP : va_P (dC, dI) classes [(md, .inr (12, [md_tape, md_size, md_thrown, md_fault, md_bytes, md_used, md_at, md_length, md_depAt, md_firstChange, md_hashes, md_deps, md_patches, md_sort, md_of, md_fileOf, md_one, md_two, md_nameAt, md_nameSize, md_overAt, md_overCount, md_lineAt, md_lineCount, md_changes, md_overs, md_overTotal, md_lineChange, md_textAt, md_textSize, md_lines, md_fileChange, md_fileLines, md_files, md_sets, md_stamp, md_digest, .ref inA, .int (nI (k + x)), .int (nI n), .int w, md_dep, md_named, md_depCount, md_own, md_refFile, md_full, md_h, md_counts, md_marked, md_namings, md_namingCount, md_listed, md_listedCount, md_listedStamp, md_member, md_text, md_place, md_dead, md_edge, md_way, md_members, md_textLines, md_unsure, md_workedRepository, md_workedFile, md_workedStamp, md_stack, md_before, md_left, md_made, md_madeSize, md_need, md_needs, md_newAt, md_newSize, md_news, md_common, md_keptAs, md_isNew, md_keptFrom, md_stateOf, md_rising])), (inA, .inl (cB, NI, .inl gi))] H := hP
    have hD : va_D A [(md, .inr (12, [md_tape, md_size, md_thrown, md_fault, md_bytes, md_used, md_at, md_length, md_depAt, md_firstChange, md_hashes, md_deps, md_patches, md_sort, md_of, md_fileOf, md_one, md_two, md_nameAt, md_nameSize, md_overAt, md_overCount, md_lineAt, md_lineCount, md_changes, md_overs, md_overTotal, md_lineChange, md_textAt, md_textSize, md_lines, md_fileChange, md_fileLines, md_files, md_sets, md_stamp, md_digest, .ref inA, .int (nI (k + x)), .int (nI n), .int w, md_dep, md_named, md_depCount, md_own, md_refFile, md_full, md_h, md_counts, md_marked, md_namings, md_namingCount, md_listed, md_listedCount, md_listedStamp, md_member, md_text, md_place, md_dead, md_edge, md_way, md_members, md_textLines, md_unsure, md_workedRepository, md_workedFile, md_workedStamp, md_stack, md_before, md_left, md_made, md_madeSize, md_need, md_needs, md_newAt, md_newSize, md_news, md_common, md_keptAs, md_isNew, md_keptFrom, md_stateOf, md_rising])), (inA, .inl (cB, NI, .inl gi))] := hD
    exact W.vret hx hb hr (fun t ht hW => ⟨⟨(k + x, w), rfl, ⟨Nat.le_add_right _ _, by show k + x ≤ n; omega, Or.inl ⟨rfl, by omega, rfl⟩⟩, by rw [ht]; exact hP, va_K.moved hW.alike hK, hD⟩, hS.F ht⟩) hS.2.2 d_Md_skip_39
  · have n_10 : (n - k) < x := Nat.lt_of_not_le (fun z => c_10 ((nI_leI (a := x) (b := (n - k)) (by omega) (by omega)).mpr z))
    refine lv_aload_n hx hb d_Md_skip_13 rfl (lv_at hl 0 rfl) ?_
    refine lv_iconst (v := 1) hx hb d_Md_skip_14 (by decide) ?_
    refine va_put (D := (dC, dI)) (ci := 12) (v := .int 1) (ty := .boolean) (C := R_Md) (T := F_Md) (N := 83) hx hb hts i_Md t_Md t_Md_ok n_Md hown hK hP hD hS 0 rfl rfl 40 (by decide) (hts _ gw_1458) (fun _ h9 => h9) rfl (by decide +kernel) nz_b1 rfl (Nat.le_of_ble_eq_true rfl) d_Md_skip_15 (fun H locs hP hD hS => ?_)
    have hP : va_P (dC, dI) classes [(md, .inr (12, [md_tape, md_size, md_thrown, md_fault, md_bytes, md_used, md_at, md_length, md_depAt, md_firstChange, md_hashes, md_deps, md_patches, md_sort, md_of, md_fileOf, md_one, md_two, md_nameAt, md_nameSize, md_overAt, md_overCount, md_lineAt, md_lineCount, md_changes, md_overs, md_overTotal, md_lineChange, md_textAt, md_textSize, md_lines, md_fileChange, md_fileLines, md_files, md_sets, md_stamp, md_digest, .ref inA, .int (nI k), .int (nI n), .int 1, md_dep, md_named, md_depCount, md_own, md_refFile, md_full, md_h, md_counts, md_marked, md_namings, md_namingCount, md_listed, md_listedCount, md_listedStamp, md_member, md_text, md_place, md_dead, md_edge, md_way, md_members, md_textLines, md_unsure, md_workedRepository, md_workedFile, md_workedStamp, md_stack, md_before, md_left, md_made, md_madeSize, md_need, md_needs, md_newAt, md_newSize, md_news, md_common, md_keptAs, md_isNew, md_keptFrom, md_stateOf, md_rising])), (inA, .inl (cB, NI, .inl gi))] H := hP
    have hD : va_D A [(md, .inr (12, [md_tape, md_size, md_thrown, md_fault, md_bytes, md_used, md_at, md_length, md_depAt, md_firstChange, md_hashes, md_deps, md_patches, md_sort, md_of, md_fileOf, md_one, md_two, md_nameAt, md_nameSize, md_overAt, md_overCount, md_lineAt, md_lineCount, md_changes, md_overs, md_overTotal, md_lineChange, md_textAt, md_textSize, md_lines, md_fileChange, md_fileLines, md_files, md_sets, md_stamp, md_digest, .ref inA, .int (nI k), .int (nI n), .int 1, md_dep, md_named, md_depCount, md_own, md_refFile, md_full, md_h, md_counts, md_marked, md_namings, md_namingCount, md_listed, md_listedCount, md_listedStamp, md_member, md_text, md_place, md_dead, md_edge, md_way, md_members, md_textLines, md_unsure, md_workedRepository, md_workedFile, md_workedStamp, md_stack, md_before, md_left, md_made, md_madeSize, md_need, md_needs, md_newAt, md_newSize, md_news, md_common, md_keptAs, md_isNew, md_keptFrom, md_stateOf, md_rising])), (inA, .inl (cB, NI, .inl gi))] := hD
    refine lv_aload_n hx hb d_Md_skip_18 rfl (lv_at hl 0 rfl) ?_
    refine lv_aload_n hx hb d_Md_skip_19 rfl (lv_at hl 0 rfl) ?_
    refine va_get (D := (dC, dI)) (ci := 12) (v := .int (nI n)) (C := R_Md) (T := F_Md) (N := 83) hx hb hts i_Md hown hK hP 0 rfl rfl 39 (by decide) (hts _ gw_1457) (fun _ h9 => h9) rfl d_Md_skip_20 ?_
    refine va_put (D := (dC, dI)) (ci := 12) (v := .int (nI n)) (ty := .int) (C := R_Md) (T := F_Md) (N := 83) hx hb hts i_Md t_Md t_Md_ok n_Md hown hK hP hD hS 0 rfl rfl 38 (by decide) (hts _ gw_1456) (fun _ h9 => h9) rfl (by decide +kernel) rfl rfl (Nat.le_of_ble_eq_true rfl) d_Md_skip_23 (fun H locs hP hD hS => ?_)
    have hP : va_P (dC, dI) classes [(md, .inr (12, [md_tape, md_size, md_thrown, md_fault, md_bytes, md_used, md_at, md_length, md_depAt, md_firstChange, md_hashes, md_deps, md_patches, md_sort, md_of, md_fileOf, md_one, md_two, md_nameAt, md_nameSize, md_overAt, md_overCount, md_lineAt, md_lineCount, md_changes, md_overs, md_overTotal, md_lineChange, md_textAt, md_textSize, md_lines, md_fileChange, md_fileLines, md_files, md_sets, md_stamp, md_digest, .ref inA, .int (nI n), .int (nI n), .int 1, md_dep, md_named, md_depCount, md_own, md_refFile, md_full, md_h, md_counts, md_marked, md_namings, md_namingCount, md_listed, md_listedCount, md_listedStamp, md_member, md_text, md_place, md_dead, md_edge, md_way, md_members, md_textLines, md_unsure, md_workedRepository, md_workedFile, md_workedStamp, md_stack, md_before, md_left, md_made, md_madeSize, md_need, md_needs, md_newAt, md_newSize, md_news, md_common, md_keptAs, md_isNew, md_keptFrom, md_stateOf, md_rising])), (inA, .inl (cB, NI, .inl gi))] H := hP
    have hD : va_D A [(md, .inr (12, [md_tape, md_size, md_thrown, md_fault, md_bytes, md_used, md_at, md_length, md_depAt, md_firstChange, md_hashes, md_deps, md_patches, md_sort, md_of, md_fileOf, md_one, md_two, md_nameAt, md_nameSize, md_overAt, md_overCount, md_lineAt, md_lineCount, md_changes, md_overs, md_overTotal, md_lineChange, md_textAt, md_textSize, md_lines, md_fileChange, md_fileLines, md_files, md_sets, md_stamp, md_digest, .ref inA, .int (nI n), .int (nI n), .int 1, md_dep, md_named, md_depCount, md_own, md_refFile, md_full, md_h, md_counts, md_marked, md_namings, md_namingCount, md_listed, md_listedCount, md_listedStamp, md_member, md_text, md_place, md_dead, md_edge, md_way, md_members, md_textLines, md_unsure, md_workedRepository, md_workedFile, md_workedStamp, md_stack, md_before, md_left, md_made, md_madeSize, md_need, md_needs, md_newAt, md_newSize, md_news, md_common, md_keptAs, md_isNew, md_keptFrom, md_stateOf, md_rising])), (inA, .inl (cB, NI, .inl gi))] := hD
    refine lv_goto (tgt := 39) hx hb d_Md_skip_26 (by decide) ?_
    exact W.vret hx hb hr (fun t ht hW => ⟨⟨(n, 1), rfl, ⟨hk, Nat.le_refl _, Or.inr ⟨rfl, fun b z => absurd z.1 (by omega)⟩⟩, by rw [ht]; exact hP, va_K.moved hW.alike hK, hD⟩, hS.F ht⟩) hS.2.2 d_Md_skip_39
set_option maxHeartbeats 4000000 in
set_option maxRecDepth 100000 in
/-- a name is parsed -/
theorem m_Md_name (l : Launch) (dC : Nat → ClassId) (dI : Nat → Nat → Nat) (cI cB cL cZ cR : ClassId) (md inA NI : Nat) (md_tape md_size md_thrown md_fault md_bytes md_used md_at md_length md_depAt md_firstChange md_hashes md_deps md_patches md_sort md_of md_fileOf md_one md_two md_nameAt md_nameSize md_overAt md_overCount md_lineAt md_lineCount md_changes md_overs md_overTotal md_lineChange md_textAt md_textSize md_lines md_fileChange md_fileLines md_files md_sets md_stamp md_digest md_dep md_named md_depCount md_own md_refFile md_full md_h md_counts md_marked md_namings md_namingCount md_listed md_listedCount md_listedStamp md_member md_text md_place md_dead md_edge md_way md_members md_textLines md_unsure md_workedRepository md_workedFile md_workedStamp md_stack md_before md_left md_made md_madeSize md_need md_needs md_newAt md_newSize md_news md_common md_keptAs md_isNew md_keptFrom md_stateOf md_rising : Value) (gi f : Nat → Int32) (a0 n k x : Nat) (w : Int32) (sz : Nat) (hn : n ≤ NI) (hNI : NI ≤ 200000) (hk : k ≤ n) (hin : ∀ i, i < n → gi i = f (a0 + i)) (hx9 : x < 65536) : Met l y_Md_name0 ws_Md_name0 ({ frames := 1, cells := 0, slots := 0, locals := 60 }) (xw_Pc dC dI [(cI, .int), (cB, .byte), (cL, .long), (cZ, .boolean), (cR, .object "PatchStore$Repository")] [.ref md, .int (nI x)] [(md, .inr (12, [md_tape, md_size, md_thrown, md_fault, md_bytes, md_used, md_at, md_length, md_depAt, md_firstChange, md_hashes, md_deps, md_patches, md_sort, md_of, md_fileOf, md_one, md_two, md_nameAt, md_nameSize, md_overAt, md_overCount, md_lineAt, md_lineCount, md_changes, md_overs, md_overTotal, md_lineChange, md_textAt, md_textSize, md_lines, md_fileChange, md_fileLines, md_files, md_sets, md_stamp, md_digest, .ref inA, .int (nI k), .int (nI n), .int w, md_dep, md_named, md_depCount, md_own, md_refFile, md_full, md_h, md_counts, md_marked, md_namings, md_namingCount, md_listed, md_listedCount, md_listedStamp, md_member, md_text, md_place, md_dead, md_edge, md_way, md_members, md_textLines, md_unsure, md_workedRepository, md_workedFile, md_workedStamp, md_stack, md_before, md_left, md_made, md_madeSize, md_need, md_needs, md_newAt, md_newSize, md_news, md_common, md_keptAs, md_isNew, md_keptFrom, md_stateOf, md_rising])), (inA, .inl (cB, NI, .inl gi))] sz) (va_Qv (fun u : Nat × Int32 => prs n k w u.1 u.2 (fun b => (1 ≤ x ∧ x ≤ 64) ∧ (k + x ≤ n ∧ b = k + x) ∧ plain f (a0 + k) x)) (fun u t => xw_B dC dI [(cI, .int), (cB, .byte), (cL, .long), (cZ, .boolean), (cR, .object "PatchStore$Repository")] (va_A [(md, .inr (12, [md_tape, md_size, md_thrown, md_fault, md_bytes, md_used, md_at, md_length, md_depAt, md_firstChange, md_hashes, md_deps, md_patches, md_sort, md_of, md_fileOf, md_one, md_two, md_nameAt, md_nameSize, md_overAt, md_overCount, md_lineAt, md_lineCount, md_changes, md_overs, md_overTotal, md_lineChange, md_textAt, md_textSize, md_lines, md_fileChange, md_fileLines, md_files, md_sets, md_stamp, md_digest, .ref inA, .int (nI k), .int (nI n), .int w, md_dep, md_named, md_depCount, md_own, md_refFile, md_full, md_h, md_counts, md_marked, md_namings, md_namingCount, md_listed, md_listedCount, md_listedStamp, md_member, md_text, md_place, md_dead, md_edge, md_way, md_members, md_textLines, md_unsure, md_workedRepository, md_workedFile, md_workedStamp, md_stack, md_before, md_left, md_made, md_madeSize, md_need, md_needs, md_newAt, md_newSize, md_news, md_common, md_keptAs, md_isNew, md_keptFrom, md_stateOf, md_rising])), (inA, .inl (cB, NI, .inl gi))] sz) [(md, .inr (12, [md_tape, md_size, md_thrown, md_fault, md_bytes, md_used, md_at, md_length, md_depAt, md_firstChange, md_hashes, md_deps, md_patches, md_sort, md_of, md_fileOf, md_one, md_two, md_nameAt, md_nameSize, md_overAt, md_overCount, md_lineAt, md_lineCount, md_changes, md_overs, md_overTotal, md_lineChange, md_textAt, md_textSize, md_lines, md_fileChange, md_fileLines, md_files, md_sets, md_stamp, md_digest, .ref inA, .int (nI u.1), .int (nI n), .int u.2, md_dep, md_named, md_depCount, md_own, md_refFile, md_full, md_h, md_counts, md_marked, md_namings, md_namingCount, md_listed, md_listedCount, md_listedStamp, md_member, md_text, md_place, md_dead, md_edge, md_way, md_members, md_textLines, md_unsure, md_workedRepository, md_workedFile, md_workedStamp, md_stack, md_before, md_left, md_made, md_madeSize, md_need, md_needs, md_newAt, md_newSize, md_news, md_common, md_keptAs, md_isNew, md_keptFrom, md_stateOf, md_rising])), (inA, .inl (cB, NI, .inl gi))] t) (va_A [(md, .inr (12, [md_tape, md_size, md_thrown, md_fault, md_bytes, md_used, md_at, md_length, md_depAt, md_firstChange, md_hashes, md_deps, md_patches, md_sort, md_of, md_fileOf, md_one, md_two, md_nameAt, md_nameSize, md_overAt, md_overCount, md_lineAt, md_lineCount, md_changes, md_overs, md_overTotal, md_lineChange, md_textAt, md_textSize, md_lines, md_fileChange, md_fileLines, md_files, md_sets, md_stamp, md_digest, .ref inA, .int (nI k), .int (nI n), .int w, md_dep, md_named, md_depCount, md_own, md_refFile, md_full, md_h, md_counts, md_marked, md_namings, md_namingCount, md_listed, md_listedCount, md_listedStamp, md_member, md_text, md_place, md_dead, md_edge, md_way, md_members, md_textLines, md_unsure, md_workedRepository, md_workedFile, md_workedStamp, md_stack, md_before, md_left, md_made, md_madeSize, md_need, md_needs, md_newAt, md_newSize, md_news, md_common, md_keptAs, md_isNew, md_keptFrom, md_stateOf, md_rising])), (inA, .inl (cB, NI, .inl gi))] sz)) 0 0 (va_A [(md, .inr (12, [md_tape, md_size, md_thrown, md_fault, md_bytes, md_used, md_at, md_length, md_depAt, md_firstChange, md_hashes, md_deps, md_patches, md_sort, md_of, md_fileOf, md_one, md_two, md_nameAt, md_nameSize, md_overAt, md_overCount, md_lineAt, md_lineCount, md_changes, md_overs, md_overTotal, md_lineChange, md_textAt, md_textSize, md_lines, md_fileChange, md_fileLines, md_files, md_sets, md_stamp, md_digest, .ref inA, .int (nI k), .int (nI n), .int w, md_dep, md_named, md_depCount, md_own, md_refFile, md_full, md_h, md_counts, md_marked, md_namings, md_namingCount, md_listed, md_listedCount, md_listedStamp, md_member, md_text, md_place, md_dead, md_edge, md_way, md_members, md_textLines, md_unsure, md_workedRepository, md_workedFile, md_workedStamp, md_stack, md_before, md_left, md_made, md_madeSize, md_need, md_needs, md_newAt, md_newSize, md_news, md_common, md_keptAs, md_isNew, md_keptFrom, md_stateOf, md_rising])), (inA, .inl (cB, NI, .inl gi))] sz) := by
  refine Met.ofW (cc := prog_14_method_12_code) (maxL := 4) (ret := none) (by decide) rfl ?_
  intro p e s m args below meth c s₁ B hml hv
  obtain ⟨rfl, hsz, hP, hK, hD0⟩ := hv
  have hx := B.exec
  have hb := B.bytes
  have hr := B.returns
  have hts0 := atoms_spec (ws := ws_Md_name0) B.pre
  have hts : ∀ w ∈ xg_1, w.before _ s = true := fun w h => hts0 w (List.mem_cons_of_mem _ h)
  have hown : s.vm.findClass "PatchStoreModel" = some m.cls := findClass_of_methodNamed B.named
  have hlocks := B.notSynchronized
  subst hsz
  have hD := hD0.self (sz := s.heap.size)
  generalize hAe : va_A [(md, .inr (12, [md_tape, md_size, md_thrown, md_fault, md_bytes, md_used, md_at, md_length, md_depAt, md_firstChange, md_hashes, md_deps, md_patches, md_sort, md_of, md_fileOf, md_one, md_two, md_nameAt, md_nameSize, md_overAt, md_overCount, md_lineAt, md_lineCount, md_changes, md_overs, md_overTotal, md_lineChange, md_textAt, md_textSize, md_lines, md_fileChange, md_fileLines, md_files, md_sets, md_stamp, md_digest, .ref inA, .int (nI k), .int (nI n), .int w, md_dep, md_named, md_depCount, md_own, md_refFile, md_full, md_h, md_counts, md_marked, md_namings, md_namingCount, md_listed, md_listedCount, md_listedStamp, md_member, md_text, md_place, md_dead, md_edge, md_way, md_members, md_textLines, md_unsure, md_workedRepository, md_workedFile, md_workedStamp, md_stack, md_before, md_left, md_made, md_madeSize, md_need, md_needs, md_newAt, md_newSize, md_news, md_common, md_keptAs, md_isNew, md_keptFrom, md_stateOf, md_rising])), (inA, .inl (cB, NI, .inl gi))] s.heap.size = A at hD ⊢
  have hA : ∀ q : Nat, s.heap.size ≤ q → A q := fun q h => by rw [← hAe]; exact Or.inr h
  have hS : va_S A s.heap s.heap [] := va_S.rf
  have hl := lv_entry ([.ref md, .int (nI x)]) (n := 4) (Nat.le_of_ble_eq_true rfl)
  rw [lg_entry_eq]
  generalize (lg_sl ([.ref md, .int (nI x)]) ++ List.replicate (4 - (lg_sl ([.ref md, .int (nI x)])).length) Slot.unset).toArray = ls at hl ⊢
  have hl : lv_has ls 4 [(0, .ref md), (1, .int (nI x))] := hl
  generalize hQe : MQ _ _ _ _ _ _ _ = Q
  refine lv_iload_n hx hb d_Md_name0_0 rfl (lv_at hl 1 rfl) ?_
  refine lv_iconst (v := 1) hx hb d_Md_name0_1 (by decide) ?_
  refine lv_icmp_lt (tgt := 11) hx hb d_Md_name0_2 (by decide) (fun c_2 => ?_) (fun c_2 => ?_)
  · have n_2 : x < 1 := (nI_ltI (a := x) (b := 1) (by omega) (by omega)).mp c_2
    refine lv_aload_n hx hb d_Md_name0_11 rfl (lv_at hl 0 rfl) ?_
    refine lv_iconst (v := 1) hx hb d_Md_name0_12 (by decide) ?_
    refine va_put (D := (dC, dI)) (ci := 12) (v := .int 1) (ty := .boolean) (C := R_Md) (T := F_Md) (N := 83) hx hb hts i_Md t_Md t_Md_ok n_Md hown hK hP hD hS 0 rfl rfl 40 (by decide) (hts _ gw_1458) (fun _ h9 => h9) rfl (by decide +kernel) nz_b1 rfl (Nat.le_of_ble_eq_true rfl) d_Md_name0_13 (fun H locs hP hD hS => ?_)
    have hP : va_P (dC, dI) classes [(md, .inr (12, [md_tape, md_size, md_thrown, md_fault, md_bytes, md_used, md_at, md_length, md_depAt, md_firstChange, md_hashes, md_deps, md_patches, md_sort, md_of, md_fileOf, md_one, md_two, md_nameAt, md_nameSize, md_overAt, md_overCount, md_lineAt, md_lineCount, md_changes, md_overs, md_overTotal, md_lineChange, md_textAt, md_textSize, md_lines, md_fileChange, md_fileLines, md_files, md_sets, md_stamp, md_digest, .ref inA, .int (nI k), .int (nI n), .int 1, md_dep, md_named, md_depCount, md_own, md_refFile, md_full, md_h, md_counts, md_marked, md_namings, md_namingCount, md_listed, md_listedCount, md_listedStamp, md_member, md_text, md_place, md_dead, md_edge, md_way, md_members, md_textLines, md_unsure, md_workedRepository, md_workedFile, md_workedStamp, md_stack, md_before, md_left, md_made, md_madeSize, md_need, md_needs, md_newAt, md_newSize, md_news, md_common, md_keptAs, md_isNew, md_keptFrom, md_stateOf, md_rising])), (inA, .inl (cB, NI, .inl gi))] H := hP
    have hD : va_D A [(md, .inr (12, [md_tape, md_size, md_thrown, md_fault, md_bytes, md_used, md_at, md_length, md_depAt, md_firstChange, md_hashes, md_deps, md_patches, md_sort, md_of, md_fileOf, md_one, md_two, md_nameAt, md_nameSize, md_overAt, md_overCount, md_lineAt, md_lineCount, md_changes, md_overs, md_overTotal, md_lineChange, md_textAt, md_textSize, md_lines, md_fileChange, md_fileLines, md_files, md_sets, md_stamp, md_digest, .ref inA, .int (nI k), .int (nI n), .int 1, md_dep, md_named, md_depCount, md_own, md_refFile, md_full, md_h, md_counts, md_marked, md_namings, md_namingCount, md_listed, md_listedCount, md_listedStamp, md_member, md_text, md_place, md_dead, md_edge, md_way, md_members, md_textLines, md_unsure, md_workedRepository, md_workedFile, md_workedStamp, md_stack, md_before, md_left, md_made, md_madeSize, md_need, md_needs, md_newAt, md_newSize, md_news, md_common, md_keptAs, md_isNew, md_keptFrom, md_stateOf, md_rising])), (inA, .inl (cB, NI, .inl gi))] := hD
    refine lv_aload_n hx hb d_Md_name0_16 rfl (lv_at hl 0 rfl) ?_
    refine va_get (D := (dC, dI)) (ci := 12) (v := .int (nI k)) (C := R_Md) (T := F_Md) (N := 83) hx hb hts i_Md hown hK hP 0 rfl rfl 38 (by decide) (hts _ gw_1456) (fun _ h9 => h9) rfl d_Md_name0_17 ?_
    refine lv_istore_n (lv' := [(2, .int (nI k)), (0, .ref md), (1, .int (nI x))]) hx hb d_Md_name0_20 rfl hl (by decide) rfl (fun ls hl => ?_)
    refine lv_aload_n hx hb d_Md_name0_21 rfl (lv_at hl 1 rfl) ?_
    refine lv_iload_n hx hb d_Md_name0_22 rfl (lv_at hl 2 rfl) ?_
    have hPc := hP.sub (ws' := [(md, .inr (12, [md_tape, md_size, md_thrown, md_fault, md_bytes, md_used, md_at, md_length, md_depAt, md_firstChange, md_hashes, md_deps, md_patches, md_sort, md_of, md_fileOf, md_one, md_two, md_nameAt, md_nameSize, md_overAt, md_overCount, md_lineAt, md_lineCount, md_changes, md_overs, md_overTotal, md_lineChange, md_textAt, md_textSize, md_lines, md_fileChange, md_fileLines, md_files, md_sets, md_stamp, md_digest, .ref inA, .int (nI k), .int (nI n), .int 1, md_dep, md_named, md_depCount, md_own, md_refFile, md_full, md_h, md_counts, md_marked, md_namings, md_namingCount, md_listed, md_listedCount, md_listedStamp, md_member, md_text, md_place, md_dead, md_edge, md_way, md_members, md_textLines, md_unsure, md_workedRepository, md_workedFile, md_workedStamp, md_stack, md_before, md_left, md_made, md_madeSize, md_need, md_needs, md_newAt, md_newSize, md_news, md_common, md_keptAs, md_isNew, md_keptFrom, md_stateOf, md_rising])), (inA, .inl (cB, NI, .inl gi))]) [0, 1] rfl
    have hDc := hD.sub (ws' := [(md, .inr (12, [md_tape, md_size, md_thrown, md_fault, md_bytes, md_used, md_at, md_length, md_depAt, md_firstChange, md_hashes, md_deps, md_patches, md_sort, md_of, md_fileOf, md_one, md_two, md_nameAt, md_nameSize, md_overAt, md_overCount, md_lineAt, md_lineCount, md_changes, md_overs, md_overTotal, md_lineChange, md_textAt, md_textSize, md_lines, md_fileChange, md_fileLines, md_files, md_sets, md_stamp, md_digest, .ref inA, .int (nI k), .int (nI n), .int 1, md_dep, md_named, md_depCount, md_own, md_refFile, md_full, md_h, md_counts, md_marked, md_namings, md_namingCount, md_listed, md_listedCount, md_listedStamp, md_member, md_text, md_place, md_dead, md_edge, md_way, md_members, md_textLines, md_unsure, md_workedRepository, md_workedFile, md_workedStamp, md_stack, md_before, md_left, md_made, md_madeSize, md_need, md_needs, md_newAt, md_newSize, md_news, md_common, md_keptAs, md_isNew, md_keptFrom, md_stateOf, md_rising])), (inA, .inl (cB, NI, .inl gi))]) [0, 1] (by decide) rfl
    have hFc := va_free (wc := [(md, .inr (12, [md_tape, md_size, md_thrown, md_fault, md_bytes, md_used, md_at, md_length, md_depAt, md_firstChange, md_hashes, md_deps, md_patches, md_sort, md_of, md_fileOf, md_one, md_two, md_nameAt, md_nameSize, md_overAt, md_overCount, md_lineAt, md_lineCount, md_changes, md_overs, md_overTotal, md_lineChange, md_textAt, md_textSize, md_lines, md_fileChange, md_fileLines, md_files, md_sets, md_stamp, md_digest, .ref inA, .int (nI k), .int (nI n), .int 1, md_dep, md_named, md_depCount, md_own, md_refFile, md_full, md_h, md_counts, md_marked, md_namings, md_namingCount, md_listed, md_listedCount, md_listedStamp, md_member, md_text, md_place, md_dead, md_edge, md_way, md_members, md_textLines, md_unsure, md_workedRepository, md_workedFile, md_workedStamp, md_stack, md_before, md_left, md_made, md_madeSize, md_need, md_needs, md_newAt, md_newSize, md_news, md_common, md_keptAs, md_isNew, md_keptFrom, md_stateOf, md_rising])), (inA, .inl (cB, NI, .inl gi))]) hD hS hA [0, 1] rfl
    refine va_callv (va_runV (As := [.int (nI x)]) (rest := []) ⟨hx, hb, hml, hown, hts⟩ (m_Md_skip l dC dI cI cB cL cZ cR md inA NI (md_tape) (md_size) (md_thrown) (md_fault) (md_bytes) (md_used) (md_at) (md_length) (md_depAt) (md_firstChange) (md_hashes) (md_deps) (md_patches) (md_sort) (md_of) (md_fileOf) (md_one) (md_two) (md_nameAt) (md_nameSize) (md_overAt) (md_overCount) (md_lineAt) (md_lineCount) (md_changes) (md_overs) (md_overTotal) (md_lineChange) (md_textAt) (md_textSize) (md_lines) (md_fileChange) (md_fileLines) (md_files) (md_sets) (md_stamp) (md_digest) (md_dep) (md_named) (md_depCount) (md_own) (md_refFile) (md_full) (md_h) (md_counts) (md_marked) (md_namings) (md_namingCount) (md_listed) (md_listedCount) (md_listedStamp) (md_member) (md_text) (md_place) (md_dead) (md_edge) (md_way) (md_members) (md_textLines) (md_unsure) (md_workedRepository) (md_workedFile) (md_workedStamp) (md_stack) (md_before) (md_left) (md_made) (md_madeSize) (md_need) (md_needs) (md_newAt) (md_newSize) (md_news) (md_common) (md_keptAs) (md_isNew) (md_keptFrom) (md_stateOf) (md_rising) gi f a0 n k x 1 H.size hn hNI (by omega) hin (by omega)) (cwV 1 hts (xg_V gw_1725 gw_1727 (xg_p 79 (q := (⟨"PatchStoreModel", "skip", "(I)V"⟩, 83)) (by decide +kernel)) gw_13 gw_1728) rfl rfl rfl (by decide +kernel) ⟨Nat.le_of_ble_eq_true rfl, Nat.le_of_ble_eq_true rfl⟩) ⟨xw_blind, va_recv hK hPc (ci := 12) (q0 := 0) rfl rfl, fun U hU hW => ⟨rfl, by rw [hU], by rw [hU]; exact hPc, va_K.moved hW.alike hK, hDc.weaken (fun _ _ _ _ => trivial)⟩⟩ rfl rfl hl.1 rfl (lv_room (Nat.le_of_ble_eq_true rfl)) d_Md_name0_23 ⟨Nat.le_of_ble_eq_true rfl, Nat.le_of_ble_eq_true rfl⟩) hS (fun q _ h => hFc q h) hFc (fun k1 t H1 locs ht hvm hw hB hz1 hk1 hS => ?_)
    obtain ⟨k1, w1⟩ := k1
    have hsk : prs n k 1 k1 w1 (fun b => k + x ≤ n ∧ b = k + x) := hw
    have hskb := And.intro hsk.1 hsk.2.1
    obtain ⟨hP1, hK1, hD1⟩ := hB
    rw [ht] at hP1
    obtain ⟨hP, hD⟩ := va_join (wr := []) (w1 := [(md, .inr (12, [md_tape, md_size, md_thrown, md_fault, md_bytes, md_used, md_at, md_length, md_depAt, md_firstChange, md_hashes, md_deps, md_patches, md_sort, md_of, md_fileOf, md_one, md_two, md_nameAt, md_nameSize, md_overAt, md_overCount, md_lineAt, md_lineCount, md_changes, md_overs, md_overTotal, md_lineChange, md_textAt, md_textSize, md_lines, md_fileChange, md_fileLines, md_files, md_sets, md_stamp, md_digest, .ref inA, .int (nI k1), .int (nI n), .int w1, md_dep, md_named, md_depCount, md_own, md_refFile, md_full, md_h, md_counts, md_marked, md_namings, md_namingCount, md_listed, md_listedCount, md_listedStamp, md_member, md_text, md_place, md_dead, md_edge, md_way, md_members, md_textLines, md_unsure, md_workedRepository, md_workedFile, md_workedStamp, md_stack, md_before, md_left, md_made, md_madeSize, md_need, md_needs, md_newAt, md_newSize, md_news, md_common, md_keptAs, md_isNew, md_keptFrom, md_stateOf, md_rising])), (inA, .inl (cB, NI, .inl gi))]) hP hD [0, 1] [] rfl rfl (by decide) (by decide) hk1 hFc hP1 hD1
    generalize H1 = H at hP hS ⊢
    have hP : va_P (dC, dI) classes [(md, .inr (12, [md_tape, md_size, md_thrown, md_fault, md_bytes, md_used, md_at, md_length, md_depAt, md_firstChange, md_hashes, md_deps, md_patches, md_sort, md_of, md_fileOf, md_one, md_two, md_nameAt, md_nameSize, md_overAt, md_overCount, md_lineAt, md_lineCount, md_changes, md_overs, md_overTotal, md_lineChange, md_textAt, md_textSize, md_lines, md_fileChange, md_fileLines, md_files, md_sets, md_stamp, md_digest, .ref inA, .int (nI k1), .int (nI n), .int w1, md_dep, md_named, md_depCount, md_own, md_refFile, md_full, md_h, md_counts, md_marked, md_namings, md_namingCount, md_listed, md_listedCount, md_listedStamp, md_member, md_text, md_place, md_dead, md_edge, md_way, md_members, md_textLines, md_unsure, md_workedRepository, md_workedFile, md_workedStamp, md_stack, md_before, md_left, md_made, md_madeSize, md_need, md_needs, md_newAt, md_newSize, md_news, md_common, md_keptAs, md_isNew, md_keptFrom, md_stateOf, md_rising])), (inA, .inl (cB, NI, .inl gi))] H := hP
    have hD : va_D A [(md, .inr (12, [md_tape, md_size, md_thrown, md_fault, md_bytes, md_used, md_at, md_length, md_depAt, md_firstChange, md_hashes, md_deps, md_patches, md_sort, md_of, md_fileOf, md_one, md_two, md_nameAt, md_nameSize, md_overAt, md_overCount, md_lineAt, md_lineCount, md_changes, md_overs, md_overTotal, md_lineChange, md_textAt, md_textSize, md_lines, md_fileChange, md_fileLines, md_files, md_sets, md_stamp, md_digest, .ref inA, .int (nI k1), .int (nI n), .int w1, md_dep, md_named, md_depCount, md_own, md_refFile, md_full, md_h, md_counts, md_marked, md_namings, md_namingCount, md_listed, md_listedCount, md_listedStamp, md_member, md_text, md_place, md_dead, md_edge, md_way, md_members, md_textLines, md_unsure, md_workedRepository, md_workedFile, md_workedStamp, md_stack, md_before, md_left, md_made, md_madeSize, md_need, md_needs, md_newAt, md_newSize, md_news, md_common, md_keptAs, md_isNew, md_keptFrom, md_stateOf, md_rising])), (inA, .inl (cB, NI, .inl gi))] := hD
    refine lv_iload_n hx hb d_Md_name0_26 rfl (lv_at hl 0 rfl) ?_
    refine lv_istore_n (lv' := [(3, .int (nI k)), (2, .int (nI k)), (0, .ref md), (1, .int (nI x))]) hx hb d_Md_name0_27 rfl hl (by decide) rfl (fun ls hl => ?_)
    have loop_28 : ∀ (n9 : Nat) (q : Nat) (w9 : Int32) (H : Heap) (locs : List Loc) (ls : Array Slot), k1 - q < n9 → (k ≤ q ∧ q ≤ k1) → ((w9 = w1 ∧ ∀ i, k ≤ i → i < q → ¬ f (a0 + i) < 33 ∧ f (a0 + i) ≤ 126) ∨ (w9 = 1 ∧ ¬ ∀ i, k ≤ i → i < k1 → ¬ f (a0 + i) < 33 ∧ f (a0 + i) ≤ 126)) → va_P (dC, dI) classes [(md, .inr (12, [md_tape, md_size, md_thrown, md_fault, md_bytes, md_used, md_at, md_length, md_depAt, md_firstChange, md_hashes, md_deps, md_patches, md_sort, md_of, md_fileOf, md_one, md_two, md_nameAt, md_nameSize, md_overAt, md_overCount, md_lineAt, md_lineCount, md_changes, md_overs, md_overTotal, md_lineChange, md_textAt, md_textSize, md_lines, md_fileChange, md_fileLines, md_files, md_sets, md_stamp, md_digest, .ref inA, .int (nI k1), .int (nI n), .int w9, md_dep, md_named, md_depCount, md_own, md_refFile, md_full, md_h, md_counts, md_marked, md_namings, md_namingCount, md_listed, md_listedCount, md_listedStamp, md_member, md_text, md_place, md_dead, md_edge, md_way, md_members, md_textLines, md_unsure, md_workedRepository, md_workedFile, md_workedStamp, md_stack, md_before, md_left, md_made, md_madeSize, md_need, md_needs, md_newAt, md_newSize, md_news, md_common, md_keptAs, md_isNew, md_keptFrom, md_stateOf, md_rising])), (inA, .inl (cB, NI, .inl gi))] H → va_D A [(md, .inr (12, [md_tape, md_size, md_thrown, md_fault, md_bytes, md_used, md_at, md_length, md_depAt, md_firstChange, md_hashes, md_deps, md_patches, md_sort, md_of, md_fileOf, md_one, md_two, md_nameAt, md_nameSize, md_overAt, md_overCount, md_lineAt, md_lineCount, md_changes, md_overs, md_overTotal, md_lineChange, md_textAt, md_textSize, md_lines, md_fileChange, md_fileLines, md_files, md_sets, md_stamp, md_digest, .ref inA, .int (nI k1), .int (nI n), .int w9, md_dep, md_named, md_depCount, md_own, md_refFile, md_full, md_h, md_counts, md_marked, md_namings, md_namingCount, md_listed, md_listedCount, md_listedStamp, md_member, md_text, md_place, md_dead, md_edge, md_way, md_members, md_textLines, md_unsure, md_workedRepository, md_workedFile, md_workedStamp, md_stack, md_before, md_left, md_made, md_madeSize, md_need, md_needs, md_newAt, md_newSize, md_news, md_common, md_keptAs, md_isNew, md_keptFrom, md_stateOf, md_rising])), (inA, .inl (cB, NI, .inl gi))] → va_S A s.heap H locs → lv_has ls 4 [(0, .ref md), (1, .int (nI x)), (2, .int (nI k)), (3, .int (nI q))] → W p l e (headSpec ws_Md_name0 ({ frames := 1, cells := 0, slots := 0, locals := 60 })).room s m ([.ref md, .int (nI x)] : List Value).toArray below meth c H locs 0 0 Q (F0 m 28 ls []) := by
      intro n9
      induction n9 with
      | zero => intro q w9 H locs ls hm; exact absurd hm (Nat.not_lt_zero _)
      | succ n9 ih_28 =>
        intro q w9 H locs ls hm hq hq9 hP hD hS hl
        refine lv_iload_n hx hb d_Md_name0_28 rfl (lv_at hl 3 rfl) ?_
        refine lv_aload_n hx hb d_Md_name0_29 rfl (lv_at hl 0 rfl) ?_
        refine va_get (D := (dC, dI)) (ci := 12) (v := .int (nI k1)) (C := R_Md) (T := F_Md) (N := 83) hx hb hts i_Md hown hK hP 0 rfl rfl 38 (by decide) (hts _ gw_1456) (fun _ h9 => h9) rfl d_Md_name0_30 ?_
        refine lv_icmp_ge (tgt := 69) hx hb d_Md_name0_33 (by decide) (fun c_33 => ?_) (fun c_33 => ?_)
        · have n_33 : k1 ≤ q := (nI_leI (a := k1) (b := q) (by omega) (by omega)).mp c_33
          rw [← hQe]
          exact W.vret hx hb hr (fun t ht hW => ⟨⟨(k1, w9), rfl, nm_fin (Or.inr ⟨rfl, by omega⟩) hsk (by omega) hq9, by rw [ht]; exact hP, va_K.moved hW.alike hK, hD⟩, hS.F ht⟩) hS.2.2 d_Md_name0_69
        · have n_33 : q < k1 := Nat.lt_of_not_le (fun z => c_33 ((nI_leI (a := k1) (b := q) (by omega) (by omega)).mpr z))
          refine lv_aload_n hx hb d_Md_name0_36 rfl (lv_at hl 0 rfl) ?_
          refine va_get (D := (dC, dI)) (ci := 12) (v := .ref inA) (C := R_Md) (T := F_Md) (N := 83) hx hb hts i_Md hown hK hP 0 rfl rfl 37 (by decide) (hts _ gw_1455) (fun _ h9 => h9) rfl d_Md_name0_37 ?_
          refine lv_iload_n hx hb d_Md_name0_40 rfl (lv_at hl 3 rfl) ?_
          refine va_bald hx hb hK hP 1 1 rfl rfl (vp_in_nI (by omega) (by omega)) d_Md_name0_41 ?_
          rw [show (nI q).toNatClampNeg = q from nI_clamp (by omega)]
          rw [hin q (by omega)]
          refine lv_bipush (v := 33) hx hb d_Md_name0_42 (by decide) ?_
          refine lv_icmp_lt (tgt := 58) hx hb d_Md_name0_44 (by decide) (fun c_44 => ?_) (fun c_44 => ?_)
          · refine lv_aload_n hx hb d_Md_name0_58 rfl (lv_at hl 0 rfl) ?_
            refine lv_iconst (v := 1) hx hb d_Md_name0_59 (by decide) ?_
            refine va_put (D := (dC, dI)) (ci := 12) (v := .int 1) (ty := .boolean) (C := R_Md) (T := F_Md) (N := 83) hx hb hts i_Md t_Md t_Md_ok n_Md hown hK hP hD hS 0 rfl rfl 40 (by decide) (hts _ gw_1458) (fun _ h9 => h9) rfl (by decide +kernel) nz_b1 rfl (Nat.le_of_ble_eq_true rfl) d_Md_name0_60 (fun H locs hP hD hS => ?_)
            have hP : va_P (dC, dI) classes [(md, .inr (12, [md_tape, md_size, md_thrown, md_fault, md_bytes, md_used, md_at, md_length, md_depAt, md_firstChange, md_hashes, md_deps, md_patches, md_sort, md_of, md_fileOf, md_one, md_two, md_nameAt, md_nameSize, md_overAt, md_overCount, md_lineAt, md_lineCount, md_changes, md_overs, md_overTotal, md_lineChange, md_textAt, md_textSize, md_lines, md_fileChange, md_fileLines, md_files, md_sets, md_stamp, md_digest, .ref inA, .int (nI k1), .int (nI n), .int 1, md_dep, md_named, md_depCount, md_own, md_refFile, md_full, md_h, md_counts, md_marked, md_namings, md_namingCount, md_listed, md_listedCount, md_listedStamp, md_member, md_text, md_place, md_dead, md_edge, md_way, md_members, md_textLines, md_unsure, md_workedRepository, md_workedFile, md_workedStamp, md_stack, md_before, md_left, md_made, md_madeSize, md_need, md_needs, md_newAt, md_newSize, md_news, md_common, md_keptAs, md_isNew, md_keptFrom, md_stateOf, md_rising])), (inA, .inl (cB, NI, .inl gi))] H := hP
            have hD : va_D A [(md, .inr (12, [md_tape, md_size, md_thrown, md_fault, md_bytes, md_used, md_at, md_length, md_depAt, md_firstChange, md_hashes, md_deps, md_patches, md_sort, md_of, md_fileOf, md_one, md_two, md_nameAt, md_nameSize, md_overAt, md_overCount, md_lineAt, md_lineCount, md_changes, md_overs, md_overTotal, md_lineChange, md_textAt, md_textSize, md_lines, md_fileChange, md_fileLines, md_files, md_sets, md_stamp, md_digest, .ref inA, .int (nI k1), .int (nI n), .int 1, md_dep, md_named, md_depCount, md_own, md_refFile, md_full, md_h, md_counts, md_marked, md_namings, md_namingCount, md_listed, md_listedCount, md_listedStamp, md_member, md_text, md_place, md_dead, md_edge, md_way, md_members, md_textLines, md_unsure, md_workedRepository, md_workedFile, md_workedStamp, md_stack, md_before, md_left, md_made, md_madeSize, md_need, md_needs, md_newAt, md_newSize, md_news, md_common, md_keptAs, md_isNew, md_keptFrom, md_stateOf, md_rising])), (inA, .inl (cB, NI, .inl gi))] := hD
            refine lv_iinc (v := nI (q + 1)) (lv' := [(3, .int (nI (q + 1))), (0, .ref md), (1, .int (nI x)), (2, .int (nI k))]) hx hb d_Md_name0_63 hl (k := 3) rfl (by exact nI_add _ _) (by decide) rfl (fun ls hl => ?_)
            refine lv_goto (tgt := 28) hx hb d_Md_name0_66 (by decide) ?_
            exact ih_28 (q + 1) 1 _ _ _ (by omega) (by omega) (Or.inr ⟨rfl, fun z => (z q (by omega) n_33).1 c_44⟩) hP hD hS (lv_sub hl [1, 2, 3, 0] rfl)
          · refine lv_aload_n hx hb d_Md_name0_47 rfl (lv_at hl 0 rfl) ?_
            refine va_get (D := (dC, dI)) (ci := 12) (v := .ref inA) (C := R_Md) (T := F_Md) (N := 83) hx hb hts i_Md hown hK hP 0 rfl rfl 37 (by decide) (hts _ gw_1455) (fun _ h9 => h9) rfl d_Md_name0_48 ?_
            refine lv_iload_n hx hb d_Md_name0_51 rfl (lv_at hl 3 rfl) ?_
            refine va_bald hx hb hK hP 1 1 rfl rfl (vp_in_nI (by omega) (by omega)) d_Md_name0_52 ?_
            rw [show (nI q).toNatClampNeg = q from nI_clamp (by omega)]
            rw [hin q (by omega)]
            refine lv_bipush (v := 126) hx hb d_Md_name0_53 (by decide) ?_
            refine lv_icmp_le (tgt := 63) hx hb d_Md_name0_55 (by decide) (fun c_55 => ?_) (fun c_55 => ?_)
            · refine lv_iinc (v := nI (q + 1)) (lv' := [(3, .int (nI (q + 1))), (0, .ref md), (1, .int (nI x)), (2, .int (nI k))]) hx hb d_Md_name0_63 hl (k := 3) rfl (by exact nI_add _ _) (by decide) rfl (fun ls hl => ?_)
              refine lv_goto (tgt := 28) hx hb d_Md_name0_66 (by decide) ?_
              exact ih_28 (q + 1) w9 _ _ _ (by omega) (by omega) (hq9.imp (fun z => ⟨z.1, fun i z1 z2 => if e9 : i = q then by rw [e9]; exact ⟨c_44, c_55⟩ else z.2 i z1 (by omega)⟩) id) hP hD hS (lv_sub hl [1, 2, 3, 0] rfl)
            · refine lv_aload_n hx hb d_Md_name0_58 rfl (lv_at hl 0 rfl) ?_
              refine lv_iconst (v := 1) hx hb d_Md_name0_59 (by decide) ?_
              refine va_put (D := (dC, dI)) (ci := 12) (v := .int 1) (ty := .boolean) (C := R_Md) (T := F_Md) (N := 83) hx hb hts i_Md t_Md t_Md_ok n_Md hown hK hP hD hS 0 rfl rfl 40 (by decide) (hts _ gw_1458) (fun _ h9 => h9) rfl (by decide +kernel) nz_b1 rfl (Nat.le_of_ble_eq_true rfl) d_Md_name0_60 (fun H locs hP hD hS => ?_)
              have hP : va_P (dC, dI) classes [(md, .inr (12, [md_tape, md_size, md_thrown, md_fault, md_bytes, md_used, md_at, md_length, md_depAt, md_firstChange, md_hashes, md_deps, md_patches, md_sort, md_of, md_fileOf, md_one, md_two, md_nameAt, md_nameSize, md_overAt, md_overCount, md_lineAt, md_lineCount, md_changes, md_overs, md_overTotal, md_lineChange, md_textAt, md_textSize, md_lines, md_fileChange, md_fileLines, md_files, md_sets, md_stamp, md_digest, .ref inA, .int (nI k1), .int (nI n), .int 1, md_dep, md_named, md_depCount, md_own, md_refFile, md_full, md_h, md_counts, md_marked, md_namings, md_namingCount, md_listed, md_listedCount, md_listedStamp, md_member, md_text, md_place, md_dead, md_edge, md_way, md_members, md_textLines, md_unsure, md_workedRepository, md_workedFile, md_workedStamp, md_stack, md_before, md_left, md_made, md_madeSize, md_need, md_needs, md_newAt, md_newSize, md_news, md_common, md_keptAs, md_isNew, md_keptFrom, md_stateOf, md_rising])), (inA, .inl (cB, NI, .inl gi))] H := hP
              have hD : va_D A [(md, .inr (12, [md_tape, md_size, md_thrown, md_fault, md_bytes, md_used, md_at, md_length, md_depAt, md_firstChange, md_hashes, md_deps, md_patches, md_sort, md_of, md_fileOf, md_one, md_two, md_nameAt, md_nameSize, md_overAt, md_overCount, md_lineAt, md_lineCount, md_changes, md_overs, md_overTotal, md_lineChange, md_textAt, md_textSize, md_lines, md_fileChange, md_fileLines, md_files, md_sets, md_stamp, md_digest, .ref inA, .int (nI k1), .int (nI n), .int 1, md_dep, md_named, md_depCount, md_own, md_refFile, md_full, md_h, md_counts, md_marked, md_namings, md_namingCount, md_listed, md_listedCount, md_listedStamp, md_member, md_text, md_place, md_dead, md_edge, md_way, md_members, md_textLines, md_unsure, md_workedRepository, md_workedFile, md_workedStamp, md_stack, md_before, md_left, md_made, md_madeSize, md_need, md_needs, md_newAt, md_newSize, md_news, md_common, md_keptAs, md_isNew, md_keptFrom, md_stateOf, md_rising])), (inA, .inl (cB, NI, .inl gi))] := hD
              refine lv_iinc (v := nI (q + 1)) (lv' := [(3, .int (nI (q + 1))), (0, .ref md), (1, .int (nI x)), (2, .int (nI k))]) hx hb d_Md_name0_63 hl (k := 3) rfl (by exact nI_add _ _) (by decide) rfl (fun ls hl => ?_)
              refine lv_goto (tgt := 28) hx hb d_Md_name0_66 (by decide) ?_
              exact ih_28 (q + 1) 1 _ _ _ (by omega) (by omega) (Or.inr ⟨rfl, fun z => absurd (z q (by omega) n_33).2 c_55⟩) hP hD hS (lv_sub hl [1, 2, 3, 0] rfl)
    exact loop_28 _ k w1 _ _ _ (Nat.lt_succ_self _) (⟨Nat.le_refl _, hskb.1⟩) (Or.inl ⟨rfl, fun i z1 z2 => absurd z2 (by omega)⟩) hP hD hS (lv_sub hl [2, 3, 1, 0] rfl)
  · have n_2 : 1 ≤ x := Nat.le_of_not_lt (fun z => c_2 ((nI_ltI (a := x) (b := 1) (by omega) (by omega)).mpr z))
    refine lv_iload_n hx hb d_Md_name0_5 rfl (lv_at hl 1 rfl) ?_
    refine lv_bipush (v := 64) hx hb d_Md_name0_6 (by decide) ?_
    refine lv_icmp_le (tgt := 16) hx hb d_Md_name0_8 (by decide) (fun c_8 => ?_) (fun c_8 => ?_)
    · have n_8 : x ≤ 64 := (nI_leI (a := x) (b := 64) (by omega) (by omega)).mp c_8
      refine lv_aload_n hx hb d_Md_name0_16 rfl (lv_at hl 0 rfl) ?_
      refine va_get (D := (dC, dI)) (ci := 12) (v := .int (nI k)) (C := R_Md) (T := F_Md) (N := 83) hx hb hts i_Md hown hK hP 0 rfl rfl 38 (by decide) (hts _ gw_1456) (fun _ h9 => h9) rfl d_Md_name0_17 ?_
      refine lv_istore_n (lv' := [(2, .int (nI k)), (0, .ref md), (1, .int (nI x))]) hx hb d_Md_name0_20 rfl hl (by decide) rfl (fun ls hl => ?_)
      refine lv_aload_n hx hb d_Md_name0_21 rfl (lv_at hl 1 rfl) ?_
      refine lv_iload_n hx hb d_Md_name0_22 rfl (lv_at hl 2 rfl) ?_
      have hPc := hP.sub (ws' := [(md, .inr (12, [md_tape, md_size, md_thrown, md_fault, md_bytes, md_used, md_at, md_length, md_depAt, md_firstChange, md_hashes, md_deps, md_patches, md_sort, md_of, md_fileOf, md_one, md_two, md_nameAt, md_nameSize, md_overAt, md_overCount, md_lineAt, md_lineCount, md_changes, md_overs, md_overTotal, md_lineChange, md_textAt, md_textSize, md_lines, md_fileChange, md_fileLines, md_files, md_sets, md_stamp, md_digest, .ref inA, .int (nI k), .int (nI n), .int w, md_dep, md_named, md_depCount, md_own, md_refFile, md_full, md_h, md_counts, md_marked, md_namings, md_namingCount, md_listed, md_listedCount, md_listedStamp, md_member, md_text, md_place, md_dead, md_edge, md_way, md_members, md_textLines, md_unsure, md_workedRepository, md_workedFile, md_workedStamp, md_stack, md_before, md_left, md_made, md_madeSize, md_need, md_needs, md_newAt, md_newSize, md_news, md_common, md_keptAs, md_isNew, md_keptFrom, md_stateOf, md_rising])), (inA, .inl (cB, NI, .inl gi))]) [0, 1] rfl
      have hDc := hD.sub (ws' := [(md, .inr (12, [md_tape, md_size, md_thrown, md_fault, md_bytes, md_used, md_at, md_length, md_depAt, md_firstChange, md_hashes, md_deps, md_patches, md_sort, md_of, md_fileOf, md_one, md_two, md_nameAt, md_nameSize, md_overAt, md_overCount, md_lineAt, md_lineCount, md_changes, md_overs, md_overTotal, md_lineChange, md_textAt, md_textSize, md_lines, md_fileChange, md_fileLines, md_files, md_sets, md_stamp, md_digest, .ref inA, .int (nI k), .int (nI n), .int w, md_dep, md_named, md_depCount, md_own, md_refFile, md_full, md_h, md_counts, md_marked, md_namings, md_namingCount, md_listed, md_listedCount, md_listedStamp, md_member, md_text, md_place, md_dead, md_edge, md_way, md_members, md_textLines, md_unsure, md_workedRepository, md_workedFile, md_workedStamp, md_stack, md_before, md_left, md_made, md_madeSize, md_need, md_needs, md_newAt, md_newSize, md_news, md_common, md_keptAs, md_isNew, md_keptFrom, md_stateOf, md_rising])), (inA, .inl (cB, NI, .inl gi))]) [0, 1] (by decide) rfl
      have hFc := va_free (wc := [(md, .inr (12, [md_tape, md_size, md_thrown, md_fault, md_bytes, md_used, md_at, md_length, md_depAt, md_firstChange, md_hashes, md_deps, md_patches, md_sort, md_of, md_fileOf, md_one, md_two, md_nameAt, md_nameSize, md_overAt, md_overCount, md_lineAt, md_lineCount, md_changes, md_overs, md_overTotal, md_lineChange, md_textAt, md_textSize, md_lines, md_fileChange, md_fileLines, md_files, md_sets, md_stamp, md_digest, .ref inA, .int (nI k), .int (nI n), .int w, md_dep, md_named, md_depCount, md_own, md_refFile, md_full, md_h, md_counts, md_marked, md_namings, md_namingCount, md_listed, md_listedCount, md_listedStamp, md_member, md_text, md_place, md_dead, md_edge, md_way, md_members, md_textLines, md_unsure, md_workedRepository, md_workedFile, md_workedStamp, md_stack, md_before, md_left, md_made, md_madeSize, md_need, md_needs, md_newAt, md_newSize, md_news, md_common, md_keptAs, md_isNew, md_keptFrom, md_stateOf, md_rising])), (inA, .inl (cB, NI, .inl gi))]) hD hS hA [0, 1] rfl
      refine va_callv (va_runV (As := [.int (nI x)]) (rest := []) ⟨hx, hb, hml, hown, hts⟩ (m_Md_skip l dC dI cI cB cL cZ cR md inA NI (md_tape) (md_size) (md_thrown) (md_fault) (md_bytes) (md_used) (md_at) (md_length) (md_depAt) (md_firstChange) (md_hashes) (md_deps) (md_patches) (md_sort) (md_of) (md_fileOf) (md_one) (md_two) (md_nameAt) (md_nameSize) (md_overAt) (md_overCount) (md_lineAt) (md_lineCount) (md_changes) (md_overs) (md_overTotal) (md_lineChange) (md_textAt) (md_textSize) (md_lines) (md_fileChange) (md_fileLines) (md_files) (md_sets) (md_stamp) (md_digest) (md_dep) (md_named) (md_depCount) (md_own) (md_refFile) (md_full) (md_h) (md_counts) (md_marked) (md_namings) (md_namingCount) (md_listed) (md_listedCount) (md_listedStamp) (md_member) (md_text) (md_place) (md_dead) (md_edge) (md_way) (md_members) (md_textLines) (md_unsure) (md_workedRepository) (md_workedFile) (md_workedStamp) (md_stack) (md_before) (md_left) (md_made) (md_madeSize) (md_need) (md_needs) (md_newAt) (md_newSize) (md_news) (md_common) (md_keptAs) (md_isNew) (md_keptFrom) (md_stateOf) (md_rising) gi f a0 n k x w s.heap.size hn hNI (by omega) hin (by omega)) (cwV 1 hts (xg_V gw_1725 gw_1727 (xg_p 79 (q := (⟨"PatchStoreModel", "skip", "(I)V"⟩, 83)) (by decide +kernel)) gw_13 gw_1728) rfl rfl rfl (by decide +kernel) ⟨Nat.le_of_ble_eq_true rfl, Nat.le_of_ble_eq_true rfl⟩) ⟨xw_blind, va_recv hK hPc (ci := 12) (q0 := 0) rfl rfl, fun U hU hW => ⟨rfl, by rw [hU], by rw [hU]; exact hPc, va_K.moved hW.alike hK, hDc.weaken (fun _ _ _ _ => trivial)⟩⟩ rfl rfl hl.1 rfl (lv_room (Nat.le_of_ble_eq_true rfl)) d_Md_name0_23 ⟨Nat.le_of_ble_eq_true rfl, Nat.le_of_ble_eq_true rfl⟩) hS (fun q _ h => hFc q h) hFc (fun k1 t H1 locs ht hvm hw hB hz1 hk1 hS => ?_)
      obtain ⟨k1, w1⟩ := k1
      have hsk : prs n k w k1 w1 (fun b => k + x ≤ n ∧ b = k + x) := hw
      have hskb := And.intro hsk.1 hsk.2.1
      obtain ⟨hP1, hK1, hD1⟩ := hB
      rw [ht] at hP1
      obtain ⟨hP, hD⟩ := va_join (wr := []) (w1 := [(md, .inr (12, [md_tape, md_size, md_thrown, md_fault, md_bytes, md_used, md_at, md_length, md_depAt, md_firstChange, md_hashes, md_deps, md_patches, md_sort, md_of, md_fileOf, md_one, md_two, md_nameAt, md_nameSize, md_overAt, md_overCount, md_lineAt, md_lineCount, md_changes, md_overs, md_overTotal, md_lineChange, md_textAt, md_textSize, md_lines, md_fileChange, md_fileLines, md_files, md_sets, md_stamp, md_digest, .ref inA, .int (nI k1), .int (nI n), .int w1, md_dep, md_named, md_depCount, md_own, md_refFile, md_full, md_h, md_counts, md_marked, md_namings, md_namingCount, md_listed, md_listedCount, md_listedStamp, md_member, md_text, md_place, md_dead, md_edge, md_way, md_members, md_textLines, md_unsure, md_workedRepository, md_workedFile, md_workedStamp, md_stack, md_before, md_left, md_made, md_madeSize, md_need, md_needs, md_newAt, md_newSize, md_news, md_common, md_keptAs, md_isNew, md_keptFrom, md_stateOf, md_rising])), (inA, .inl (cB, NI, .inl gi))]) hP hD [0, 1] [] rfl rfl (by decide) (by decide) hk1 hFc hP1 hD1
      generalize H1 = H at hP hS ⊢
      have hP : va_P (dC, dI) classes [(md, .inr (12, [md_tape, md_size, md_thrown, md_fault, md_bytes, md_used, md_at, md_length, md_depAt, md_firstChange, md_hashes, md_deps, md_patches, md_sort, md_of, md_fileOf, md_one, md_two, md_nameAt, md_nameSize, md_overAt, md_overCount, md_lineAt, md_lineCount, md_changes, md_overs, md_overTotal, md_lineChange, md_textAt, md_textSize, md_lines, md_fileChange, md_fileLines, md_files, md_sets, md_stamp, md_digest, .ref inA, .int (nI k1), .int (nI n), .int w1, md_dep, md_named, md_depCount, md_own, md_refFile, md_full, md_h, md_counts, md_marked, md_namings, md_namingCount, md_listed, md_listedCount, md_listedStamp, md_member, md_text, md_place, md_dead, md_edge, md_way, md_members, md_textLines, md_unsure, md_workedRepository, md_workedFile, md_workedStamp, md_stack, md_before, md_left, md_made, md_madeSize, md_need, md_needs, md_newAt, md_newSize, md_news, md_common, md_keptAs, md_isNew, md_keptFrom, md_stateOf, md_rising])), (inA, .inl (cB, NI, .inl gi))] H := hP
      have hD : va_D A [(md, .inr (12, [md_tape, md_size, md_thrown, md_fault, md_bytes, md_used, md_at, md_length, md_depAt, md_firstChange, md_hashes, md_deps, md_patches, md_sort, md_of, md_fileOf, md_one, md_two, md_nameAt, md_nameSize, md_overAt, md_overCount, md_lineAt, md_lineCount, md_changes, md_overs, md_overTotal, md_lineChange, md_textAt, md_textSize, md_lines, md_fileChange, md_fileLines, md_files, md_sets, md_stamp, md_digest, .ref inA, .int (nI k1), .int (nI n), .int w1, md_dep, md_named, md_depCount, md_own, md_refFile, md_full, md_h, md_counts, md_marked, md_namings, md_namingCount, md_listed, md_listedCount, md_listedStamp, md_member, md_text, md_place, md_dead, md_edge, md_way, md_members, md_textLines, md_unsure, md_workedRepository, md_workedFile, md_workedStamp, md_stack, md_before, md_left, md_made, md_madeSize, md_need, md_needs, md_newAt, md_newSize, md_news, md_common, md_keptAs, md_isNew, md_keptFrom, md_stateOf, md_rising])), (inA, .inl (cB, NI, .inl gi))] := hD
      refine lv_iload_n hx hb d_Md_name0_26 rfl (lv_at hl 0 rfl) ?_
      refine lv_istore_n (lv' := [(3, .int (nI k)), (2, .int (nI k)), (0, .ref md), (1, .int (nI x))]) hx hb d_Md_name0_27 rfl hl (by decide) rfl (fun ls hl => ?_)
      have loop_28 : ∀ (n9 : Nat) (q : Nat) (w9 : Int32) (H : Heap) (locs : List Loc) (ls : Array Slot), k1 - q < n9 → (k ≤ q ∧ q ≤ k1) → ((w9 = w1 ∧ ∀ i, k ≤ i → i < q → ¬ f (a0 + i) < 33 ∧ f (a0 + i) ≤ 126) ∨ (w9 = 1 ∧ ¬ ∀ i, k ≤ i → i < k1 → ¬ f (a0 + i) < 33 ∧ f (a0 + i) ≤ 126)) → va_P (dC, dI) classes [(md, .inr (12, [md_tape, md_size, md_thrown, md_fault, md_bytes, md_used, md_at, md_length, md_depAt, md_firstChange, md_hashes, md_deps, md_patches, md_sort, md_of, md_fileOf, md_one, md_two, md_nameAt, md_nameSize, md_overAt, md_overCount, md_lineAt, md_lineCount, md_changes, md_overs, md_overTotal, md_lineChange, md_textAt, md_textSize, md_lines, md_fileChange, md_fileLines, md_files, md_sets, md_stamp, md_digest, .ref inA, .int (nI k1), .int (nI n), .int w9, md_dep, md_named, md_depCount, md_own, md_refFile, md_full, md_h, md_counts, md_marked, md_namings, md_namingCount, md_listed, md_listedCount, md_listedStamp, md_member, md_text, md_place, md_dead, md_edge, md_way, md_members, md_textLines, md_unsure, md_workedRepository, md_workedFile, md_workedStamp, md_stack, md_before, md_left, md_made, md_madeSize, md_need, md_needs, md_newAt, md_newSize, md_news, md_common, md_keptAs, md_isNew, md_keptFrom, md_stateOf, md_rising])), (inA, .inl (cB, NI, .inl gi))] H → va_D A [(md, .inr (12, [md_tape, md_size, md_thrown, md_fault, md_bytes, md_used, md_at, md_length, md_depAt, md_firstChange, md_hashes, md_deps, md_patches, md_sort, md_of, md_fileOf, md_one, md_two, md_nameAt, md_nameSize, md_overAt, md_overCount, md_lineAt, md_lineCount, md_changes, md_overs, md_overTotal, md_lineChange, md_textAt, md_textSize, md_lines, md_fileChange, md_fileLines, md_files, md_sets, md_stamp, md_digest, .ref inA, .int (nI k1), .int (nI n), .int w9, md_dep, md_named, md_depCount, md_own, md_refFile, md_full, md_h, md_counts, md_marked, md_namings, md_namingCount, md_listed, md_listedCount, md_listedStamp, md_member, md_text, md_place, md_dead, md_edge, md_way, md_members, md_textLines, md_unsure, md_workedRepository, md_workedFile, md_workedStamp, md_stack, md_before, md_left, md_made, md_madeSize, md_need, md_needs, md_newAt, md_newSize, md_news, md_common, md_keptAs, md_isNew, md_keptFrom, md_stateOf, md_rising])), (inA, .inl (cB, NI, .inl gi))] → va_S A s.heap H locs → lv_has ls 4 [(0, .ref md), (1, .int (nI x)), (2, .int (nI k)), (3, .int (nI q))] → W p l e (headSpec ws_Md_name0 ({ frames := 1, cells := 0, slots := 0, locals := 60 })).room s m ([.ref md, .int (nI x)] : List Value).toArray below meth c H locs 0 0 Q (F0 m 28 ls []) := by
        intro n9
        induction n9 with
        | zero => intro q w9 H locs ls hm; exact absurd hm (Nat.not_lt_zero _)
        | succ n9 ih_28 =>
          intro q w9 H locs ls hm hq hq9 hP hD hS hl
          refine lv_iload_n hx hb d_Md_name0_28 rfl (lv_at hl 3 rfl) ?_
          refine lv_aload_n hx hb d_Md_name0_29 rfl (lv_at hl 0 rfl) ?_
          refine va_get (D := (dC, dI)) (ci := 12) (v := .int (nI k1)) (C := R_Md) (T := F_Md) (N := 83) hx hb hts i_Md hown hK hP 0 rfl rfl 38 (by decide) (hts _ gw_1456) (fun _ h9 => h9) rfl d_Md_name0_30 ?_
          refine lv_icmp_ge (tgt := 69) hx hb d_Md_name0_33 (by decide) (fun c_33 => ?_) (fun c_33 => ?_)
          · have n_33 : k1 ≤ q := (nI_leI (a := k1) (b := q) (by omega) (by omega)).mp c_33
            rw [← hQe]
            exact W.vret hx hb hr (fun t ht hW => ⟨⟨(k1, w9), rfl, nm_fin (Or.inl ⟨rfl, by omega⟩) hsk (by omega) hq9, by rw [ht]; exact hP, va_K.moved hW.alike hK, hD⟩, hS.F ht⟩) hS.2.2 d_Md_name0_69
          · have n_33 : q < k1 := Nat.lt_of_not_le (fun z => c_33 ((nI_leI (a := k1) (b := q) (by omega) (by omega)).mpr z))
            refine lv_aload_n hx hb d_Md_name0_36 rfl (lv_at hl 0 rfl) ?_
            refine va_get (D := (dC, dI)) (ci := 12) (v := .ref inA) (C := R_Md) (T := F_Md) (N := 83) hx hb hts i_Md hown hK hP 0 rfl rfl 37 (by decide) (hts _ gw_1455) (fun _ h9 => h9) rfl d_Md_name0_37 ?_
            refine lv_iload_n hx hb d_Md_name0_40 rfl (lv_at hl 3 rfl) ?_
            refine va_bald hx hb hK hP 1 1 rfl rfl (vp_in_nI (by omega) (by omega)) d_Md_name0_41 ?_
            rw [show (nI q).toNatClampNeg = q from nI_clamp (by omega)]
            rw [hin q (by omega)]
            refine lv_bipush (v := 33) hx hb d_Md_name0_42 (by decide) ?_
            refine lv_icmp_lt (tgt := 58) hx hb d_Md_name0_44 (by decide) (fun c_44 => ?_) (fun c_44 => ?_)
            · refine lv_aload_n hx hb d_Md_name0_58 rfl (lv_at hl 0 rfl) ?_
              refine lv_iconst (v := 1) hx hb d_Md_name0_59 (by decide) ?_
              refine va_put (D := (dC, dI)) (ci := 12) (v := .int 1) (ty := .boolean) (C := R_Md) (T := F_Md) (N := 83) hx hb hts i_Md t_Md t_Md_ok n_Md hown hK hP hD hS 0 rfl rfl 40 (by decide) (hts _ gw_1458) (fun _ h9 => h9) rfl (by decide +kernel) nz_b1 rfl (Nat.le_of_ble_eq_true rfl) d_Md_name0_60 (fun H locs hP hD hS => ?_)
              have hP : va_P (dC, dI) classes [(md, .inr (12, [md_tape, md_size, md_thrown, md_fault, md_bytes, md_used, md_at, md_length, md_depAt, md_firstChange, md_hashes, md_deps, md_patches, md_sort, md_of, md_fileOf, md_one, md_two, md_nameAt, md_nameSize, md_overAt, md_overCount, md_lineAt, md_lineCount, md_changes, md_overs, md_overTotal, md_lineChange, md_textAt, md_textSize, md_lines, md_fileChange, md_fileLines, md_files, md_sets, md_stamp, md_digest, .ref inA, .int (nI k1), .int (nI n), .int 1, md_dep, md_named, md_depCount, md_own, md_refFile, md_full, md_h, md_counts, md_marked, md_namings, md_namingCount, md_listed, md_listedCount, md_listedStamp, md_member, md_text, md_place, md_dead, md_edge, md_way, md_members, md_textLines, md_unsure, md_workedRepository, md_workedFile, md_workedStamp, md_stack, md_before, md_left, md_made, md_madeSize, md_need, md_needs, md_newAt, md_newSize, md_news, md_common, md_keptAs, md_isNew, md_keptFrom, md_stateOf, md_rising])), (inA, .inl (cB, NI, .inl gi))] H := hP
              have hD : va_D A [(md, .inr (12, [md_tape, md_size, md_thrown, md_fault, md_bytes, md_used, md_at, md_length, md_depAt, md_firstChange, md_hashes, md_deps, md_patches, md_sort, md_of, md_fileOf, md_one, md_two, md_nameAt, md_nameSize, md_overAt, md_overCount, md_lineAt, md_lineCount, md_changes, md_overs, md_overTotal, md_lineChange, md_textAt, md_textSize, md_lines, md_fileChange, md_fileLines, md_files, md_sets, md_stamp, md_digest, .ref inA, .int (nI k1), .int (nI n), .int 1, md_dep, md_named, md_depCount, md_own, md_refFile, md_full, md_h, md_counts, md_marked, md_namings, md_namingCount, md_listed, md_listedCount, md_listedStamp, md_member, md_text, md_place, md_dead, md_edge, md_way, md_members, md_textLines, md_unsure, md_workedRepository, md_workedFile, md_workedStamp, md_stack, md_before, md_left, md_made, md_madeSize, md_need, md_needs, md_newAt, md_newSize, md_news, md_common, md_keptAs, md_isNew, md_keptFrom, md_stateOf, md_rising])), (inA, .inl (cB, NI, .inl gi))] := hD
              refine lv_iinc (v := nI (q + 1)) (lv' := [(3, .int (nI (q + 1))), (0, .ref md), (1, .int (nI x)), (2, .int (nI k))]) hx hb d_Md_name0_63 hl (k := 3) rfl (by exact nI_add _ _) (by decide) rfl (fun ls hl => ?_)
              refine lv_goto (tgt := 28) hx hb d_Md_name0_66 (by decide) ?_
              exact ih_28 (q + 1) 1 _ _ _ (by omega) (by omega) (Or.inr ⟨rfl, fun z => (z q (by omega) n_33).1 c_44⟩) hP hD hS (lv_sub hl [1, 2, 3, 0] rfl)
            · refine lv_aload_n hx hb d_Md_name0_47 rfl (lv_at hl 0 rfl) ?_
              refine va_get (D := (dC, dI)) (ci := 12) (v := .ref inA) (C := R_Md) (T := F_Md) (N := 83) hx hb hts i_Md hown hK hP 0 rfl rfl 37 (by decide) (hts _ gw_1455) (fun _ h9 => h9) rfl d_Md_name0_48 ?_
              refine lv_iload_n hx hb d_Md_name0_51 rfl (lv_at hl 3 rfl) ?_
              refine va_bald hx hb hK hP 1 1 rfl rfl (vp_in_nI (by omega) (by omega)) d_Md_name0_52 ?_
              rw [show (nI q).toNatClampNeg = q from nI_clamp (by omega)]
              rw [hin q (by omega)]
              refine lv_bipush (v := 126) hx hb d_Md_name0_53 (by decide) ?_
              refine lv_icmp_le (tgt := 63) hx hb d_Md_name0_55 (by decide) (fun c_55 => ?_) (fun c_55 => ?_)
              · refine lv_iinc (v := nI (q + 1)) (lv' := [(3, .int (nI (q + 1))), (0, .ref md), (1, .int (nI x)), (2, .int (nI k))]) hx hb d_Md_name0_63 hl (k := 3) rfl (by exact nI_add _ _) (by decide) rfl (fun ls hl => ?_)
                refine lv_goto (tgt := 28) hx hb d_Md_name0_66 (by decide) ?_
                exact ih_28 (q + 1) w9 _ _ _ (by omega) (by omega) (hq9.imp (fun z => ⟨z.1, fun i z1 z2 => if e9 : i = q then by rw [e9]; exact ⟨c_44, c_55⟩ else z.2 i z1 (by omega)⟩) id) hP hD hS (lv_sub hl [1, 2, 3, 0] rfl)
              · refine lv_aload_n hx hb d_Md_name0_58 rfl (lv_at hl 0 rfl) ?_
                refine lv_iconst (v := 1) hx hb d_Md_name0_59 (by decide) ?_
                refine va_put (D := (dC, dI)) (ci := 12) (v := .int 1) (ty := .boolean) (C := R_Md) (T := F_Md) (N := 83) hx hb hts i_Md t_Md t_Md_ok n_Md hown hK hP hD hS 0 rfl rfl 40 (by decide) (hts _ gw_1458) (fun _ h9 => h9) rfl (by decide +kernel) nz_b1 rfl (Nat.le_of_ble_eq_true rfl) d_Md_name0_60 (fun H locs hP hD hS => ?_)
                have hP : va_P (dC, dI) classes [(md, .inr (12, [md_tape, md_size, md_thrown, md_fault, md_bytes, md_used, md_at, md_length, md_depAt, md_firstChange, md_hashes, md_deps, md_patches, md_sort, md_of, md_fileOf, md_one, md_two, md_nameAt, md_nameSize, md_overAt, md_overCount, md_lineAt, md_lineCount, md_changes, md_overs, md_overTotal, md_lineChange, md_textAt, md_textSize, md_lines, md_fileChange, md_fileLines, md_files, md_sets, md_stamp, md_digest, .ref inA, .int (nI k1), .int (nI n), .int 1, md_dep, md_named, md_depCount, md_own, md_refFile, md_full, md_h, md_counts, md_marked, md_namings, md_namingCount, md_listed, md_listedCount, md_listedStamp, md_member, md_text, md_place, md_dead, md_edge, md_way, md_members, md_textLines, md_unsure, md_workedRepository, md_workedFile, md_workedStamp, md_stack, md_before, md_left, md_made, md_madeSize, md_need, md_needs, md_newAt, md_newSize, md_news, md_common, md_keptAs, md_isNew, md_keptFrom, md_stateOf, md_rising])), (inA, .inl (cB, NI, .inl gi))] H := hP
                have hD : va_D A [(md, .inr (12, [md_tape, md_size, md_thrown, md_fault, md_bytes, md_used, md_at, md_length, md_depAt, md_firstChange, md_hashes, md_deps, md_patches, md_sort, md_of, md_fileOf, md_one, md_two, md_nameAt, md_nameSize, md_overAt, md_overCount, md_lineAt, md_lineCount, md_changes, md_overs, md_overTotal, md_lineChange, md_textAt, md_textSize, md_lines, md_fileChange, md_fileLines, md_files, md_sets, md_stamp, md_digest, .ref inA, .int (nI k1), .int (nI n), .int 1, md_dep, md_named, md_depCount, md_own, md_refFile, md_full, md_h, md_counts, md_marked, md_namings, md_namingCount, md_listed, md_listedCount, md_listedStamp, md_member, md_text, md_place, md_dead, md_edge, md_way, md_members, md_textLines, md_unsure, md_workedRepository, md_workedFile, md_workedStamp, md_stack, md_before, md_left, md_made, md_madeSize, md_need, md_needs, md_newAt, md_newSize, md_news, md_common, md_keptAs, md_isNew, md_keptFrom, md_stateOf, md_rising])), (inA, .inl (cB, NI, .inl gi))] := hD
                refine lv_iinc (v := nI (q + 1)) (lv' := [(3, .int (nI (q + 1))), (0, .ref md), (1, .int (nI x)), (2, .int (nI k))]) hx hb d_Md_name0_63 hl (k := 3) rfl (by exact nI_add _ _) (by decide) rfl (fun ls hl => ?_)
                refine lv_goto (tgt := 28) hx hb d_Md_name0_66 (by decide) ?_
                exact ih_28 (q + 1) 1 _ _ _ (by omega) (by omega) (Or.inr ⟨rfl, fun z => absurd (z q (by omega) n_33).2 c_55⟩) hP hD hS (lv_sub hl [1, 2, 3, 0] rfl)
      exact loop_28 _ k w1 _ _ _ (Nat.lt_succ_self _) (⟨Nat.le_refl _, hskb.1⟩) (Or.inl ⟨rfl, fun i z1 z2 => absurd z2 (by omega)⟩) hP hD hS (lv_sub hl [2, 3, 1, 0] rfl)
    · have n_8 : 64 < x := Nat.lt_of_not_le (fun z => c_8 ((nI_leI (a := x) (b := 64) (by omega) (by omega)).mpr z))
      refine lv_aload_n hx hb d_Md_name0_11 rfl (lv_at hl 0 rfl) ?_
      refine lv_iconst (v := 1) hx hb d_Md_name0_12 (by decide) ?_
      refine va_put (D := (dC, dI)) (ci := 12) (v := .int 1) (ty := .boolean) (C := R_Md) (T := F_Md) (N := 83) hx hb hts i_Md t_Md t_Md_ok n_Md hown hK hP hD hS 0 rfl rfl 40 (by decide) (hts _ gw_1458) (fun _ h9 => h9) rfl (by decide +kernel) nz_b1 rfl (Nat.le_of_ble_eq_true rfl) d_Md_name0_13 (fun H locs hP hD hS => ?_)
      have hP : va_P (dC, dI) classes [(md, .inr (12, [md_tape, md_size, md_thrown, md_fault, md_bytes, md_used, md_at, md_length, md_depAt, md_firstChange, md_hashes, md_deps, md_patches, md_sort, md_of, md_fileOf, md_one, md_two, md_nameAt, md_nameSize, md_overAt, md_overCount, md_lineAt, md_lineCount, md_changes, md_overs, md_overTotal, md_lineChange, md_textAt, md_textSize, md_lines, md_fileChange, md_fileLines, md_files, md_sets, md_stamp, md_digest, .ref inA, .int (nI k), .int (nI n), .int 1, md_dep, md_named, md_depCount, md_own, md_refFile, md_full, md_h, md_counts, md_marked, md_namings, md_namingCount, md_listed, md_listedCount, md_listedStamp, md_member, md_text, md_place, md_dead, md_edge, md_way, md_members, md_textLines, md_unsure, md_workedRepository, md_workedFile, md_workedStamp, md_stack, md_before, md_left, md_made, md_madeSize, md_need, md_needs, md_newAt, md_newSize, md_news, md_common, md_keptAs, md_isNew, md_keptFrom, md_stateOf, md_rising])), (inA, .inl (cB, NI, .inl gi))] H := hP
      have hD : va_D A [(md, .inr (12, [md_tape, md_size, md_thrown, md_fault, md_bytes, md_used, md_at, md_length, md_depAt, md_firstChange, md_hashes, md_deps, md_patches, md_sort, md_of, md_fileOf, md_one, md_two, md_nameAt, md_nameSize, md_overAt, md_overCount, md_lineAt, md_lineCount, md_changes, md_overs, md_overTotal, md_lineChange, md_textAt, md_textSize, md_lines, md_fileChange, md_fileLines, md_files, md_sets, md_stamp, md_digest, .ref inA, .int (nI k), .int (nI n), .int 1, md_dep, md_named, md_depCount, md_own, md_refFile, md_full, md_h, md_counts, md_marked, md_namings, md_namingCount, md_listed, md_listedCount, md_listedStamp, md_member, md_text, md_place, md_dead, md_edge, md_way, md_members, md_textLines, md_unsure, md_workedRepository, md_workedFile, md_workedStamp, md_stack, md_before, md_left, md_made, md_madeSize, md_need, md_needs, md_newAt, md_newSize, md_news, md_common, md_keptAs, md_isNew, md_keptFrom, md_stateOf, md_rising])), (inA, .inl (cB, NI, .inl gi))] := hD
      refine lv_aload_n hx hb d_Md_name0_16 rfl (lv_at hl 0 rfl) ?_
      refine va_get (D := (dC, dI)) (ci := 12) (v := .int (nI k)) (C := R_Md) (T := F_Md) (N := 83) hx hb hts i_Md hown hK hP 0 rfl rfl 38 (by decide) (hts _ gw_1456) (fun _ h9 => h9) rfl d_Md_name0_17 ?_
      refine lv_istore_n (lv' := [(2, .int (nI k)), (0, .ref md), (1, .int (nI x))]) hx hb d_Md_name0_20 rfl hl (by decide) rfl (fun ls hl => ?_)
      refine lv_aload_n hx hb d_Md_name0_21 rfl (lv_at hl 1 rfl) ?_
      refine lv_iload_n hx hb d_Md_name0_22 rfl (lv_at hl 2 rfl) ?_
      have hPc := hP.sub (ws' := [(md, .inr (12, [md_tape, md_size, md_thrown, md_fault, md_bytes, md_used, md_at, md_length, md_depAt, md_firstChange, md_hashes, md_deps, md_patches, md_sort, md_of, md_fileOf, md_one, md_two, md_nameAt, md_nameSize, md_overAt, md_overCount, md_lineAt, md_lineCount, md_changes, md_overs, md_overTotal, md_lineChange, md_textAt, md_textSize, md_lines, md_fileChange, md_fileLines, md_files, md_sets, md_stamp, md_digest, .ref inA, .int (nI k), .int (nI n), .int 1, md_dep, md_named, md_depCount, md_own, md_refFile, md_full, md_h, md_counts, md_marked, md_namings, md_namingCount, md_listed, md_listedCount, md_listedStamp, md_member, md_text, md_place, md_dead, md_edge, md_way, md_members, md_textLines, md_unsure, md_workedRepository, md_workedFile, md_workedStamp, md_stack, md_before, md_left, md_made, md_madeSize, md_need, md_needs, md_newAt, md_newSize, md_news, md_common, md_keptAs, md_isNew, md_keptFrom, md_stateOf, md_rising])), (inA, .inl (cB, NI, .inl gi))]) [0, 1] rfl
      have hDc := hD.sub (ws' := [(md, .inr (12, [md_tape, md_size, md_thrown, md_fault, md_bytes, md_used, md_at, md_length, md_depAt, md_firstChange, md_hashes, md_deps, md_patches, md_sort, md_of, md_fileOf, md_one, md_two, md_nameAt, md_nameSize, md_overAt, md_overCount, md_lineAt, md_lineCount, md_changes, md_overs, md_overTotal, md_lineChange, md_textAt, md_textSize, md_lines, md_fileChange, md_fileLines, md_files, md_sets, md_stamp, md_digest, .ref inA, .int (nI k), .int (nI n), .int 1, md_dep, md_named, md_depCount, md_own, md_refFile, md_full, md_h, md_counts, md_marked, md_namings, md_namingCount, md_listed, md_listedCount, md_listedStamp, md_member, md_text, md_place, md_dead, md_edge, md_way, md_members, md_textLines, md_unsure, md_workedRepository, md_workedFile, md_workedStamp, md_stack, md_before, md_left, md_made, md_madeSize, md_need, md_needs, md_newAt, md_newSize, md_news, md_common, md_keptAs, md_isNew, md_keptFrom, md_stateOf, md_rising])), (inA, .inl (cB, NI, .inl gi))]) [0, 1] (by decide) rfl
      have hFc := va_free (wc := [(md, .inr (12, [md_tape, md_size, md_thrown, md_fault, md_bytes, md_used, md_at, md_length, md_depAt, md_firstChange, md_hashes, md_deps, md_patches, md_sort, md_of, md_fileOf, md_one, md_two, md_nameAt, md_nameSize, md_overAt, md_overCount, md_lineAt, md_lineCount, md_changes, md_overs, md_overTotal, md_lineChange, md_textAt, md_textSize, md_lines, md_fileChange, md_fileLines, md_files, md_sets, md_stamp, md_digest, .ref inA, .int (nI k), .int (nI n), .int 1, md_dep, md_named, md_depCount, md_own, md_refFile, md_full, md_h, md_counts, md_marked, md_namings, md_namingCount, md_listed, md_listedCount, md_listedStamp, md_member, md_text, md_place, md_dead, md_edge, md_way, md_members, md_textLines, md_unsure, md_workedRepository, md_workedFile, md_workedStamp, md_stack, md_before, md_left, md_made, md_madeSize, md_need, md_needs, md_newAt, md_newSize, md_news, md_common, md_keptAs, md_isNew, md_keptFrom, md_stateOf, md_rising])), (inA, .inl (cB, NI, .inl gi))]) hD hS hA [0, 1] rfl
      refine va_callv (va_runV (As := [.int (nI x)]) (rest := []) ⟨hx, hb, hml, hown, hts⟩ (m_Md_skip l dC dI cI cB cL cZ cR md inA NI (md_tape) (md_size) (md_thrown) (md_fault) (md_bytes) (md_used) (md_at) (md_length) (md_depAt) (md_firstChange) (md_hashes) (md_deps) (md_patches) (md_sort) (md_of) (md_fileOf) (md_one) (md_two) (md_nameAt) (md_nameSize) (md_overAt) (md_overCount) (md_lineAt) (md_lineCount) (md_changes) (md_overs) (md_overTotal) (md_lineChange) (md_textAt) (md_textSize) (md_lines) (md_fileChange) (md_fileLines) (md_files) (md_sets) (md_stamp) (md_digest) (md_dep) (md_named) (md_depCount) (md_own) (md_refFile) (md_full) (md_h) (md_counts) (md_marked) (md_namings) (md_namingCount) (md_listed) (md_listedCount) (md_listedStamp) (md_member) (md_text) (md_place) (md_dead) (md_edge) (md_way) (md_members) (md_textLines) (md_unsure) (md_workedRepository) (md_workedFile) (md_workedStamp) (md_stack) (md_before) (md_left) (md_made) (md_madeSize) (md_need) (md_needs) (md_newAt) (md_newSize) (md_news) (md_common) (md_keptAs) (md_isNew) (md_keptFrom) (md_stateOf) (md_rising) gi f a0 n k x 1 H.size hn hNI (by omega) hin (by omega)) (cwV 1 hts (xg_V gw_1725 gw_1727 (xg_p 79 (q := (⟨"PatchStoreModel", "skip", "(I)V"⟩, 83)) (by decide +kernel)) gw_13 gw_1728) rfl rfl rfl (by decide +kernel) ⟨Nat.le_of_ble_eq_true rfl, Nat.le_of_ble_eq_true rfl⟩) ⟨xw_blind, va_recv hK hPc (ci := 12) (q0 := 0) rfl rfl, fun U hU hW => ⟨rfl, by rw [hU], by rw [hU]; exact hPc, va_K.moved hW.alike hK, hDc.weaken (fun _ _ _ _ => trivial)⟩⟩ rfl rfl hl.1 rfl (lv_room (Nat.le_of_ble_eq_true rfl)) d_Md_name0_23 ⟨Nat.le_of_ble_eq_true rfl, Nat.le_of_ble_eq_true rfl⟩) hS (fun q _ h => hFc q h) hFc (fun k1 t H1 locs ht hvm hw hB hz1 hk1 hS => ?_)
      obtain ⟨k1, w1⟩ := k1
      have hsk : prs n k 1 k1 w1 (fun b => k + x ≤ n ∧ b = k + x) := hw
      have hskb := And.intro hsk.1 hsk.2.1
      obtain ⟨hP1, hK1, hD1⟩ := hB
      rw [ht] at hP1
      obtain ⟨hP, hD⟩ := va_join (wr := []) (w1 := [(md, .inr (12, [md_tape, md_size, md_thrown, md_fault, md_bytes, md_used, md_at, md_length, md_depAt, md_firstChange, md_hashes, md_deps, md_patches, md_sort, md_of, md_fileOf, md_one, md_two, md_nameAt, md_nameSize, md_overAt, md_overCount, md_lineAt, md_lineCount, md_changes, md_overs, md_overTotal, md_lineChange, md_textAt, md_textSize, md_lines, md_fileChange, md_fileLines, md_files, md_sets, md_stamp, md_digest, .ref inA, .int (nI k1), .int (nI n), .int w1, md_dep, md_named, md_depCount, md_own, md_refFile, md_full, md_h, md_counts, md_marked, md_namings, md_namingCount, md_listed, md_listedCount, md_listedStamp, md_member, md_text, md_place, md_dead, md_edge, md_way, md_members, md_textLines, md_unsure, md_workedRepository, md_workedFile, md_workedStamp, md_stack, md_before, md_left, md_made, md_madeSize, md_need, md_needs, md_newAt, md_newSize, md_news, md_common, md_keptAs, md_isNew, md_keptFrom, md_stateOf, md_rising])), (inA, .inl (cB, NI, .inl gi))]) hP hD [0, 1] [] rfl rfl (by decide) (by decide) hk1 hFc hP1 hD1
      generalize H1 = H at hP hS ⊢
      have hP : va_P (dC, dI) classes [(md, .inr (12, [md_tape, md_size, md_thrown, md_fault, md_bytes, md_used, md_at, md_length, md_depAt, md_firstChange, md_hashes, md_deps, md_patches, md_sort, md_of, md_fileOf, md_one, md_two, md_nameAt, md_nameSize, md_overAt, md_overCount, md_lineAt, md_lineCount, md_changes, md_overs, md_overTotal, md_lineChange, md_textAt, md_textSize, md_lines, md_fileChange, md_fileLines, md_files, md_sets, md_stamp, md_digest, .ref inA, .int (nI k1), .int (nI n), .int w1, md_dep, md_named, md_depCount, md_own, md_refFile, md_full, md_h, md_counts, md_marked, md_namings, md_namingCount, md_listed, md_listedCount, md_listedStamp, md_member, md_text, md_place, md_dead, md_edge, md_way, md_members, md_textLines, md_unsure, md_workedRepository, md_workedFile, md_workedStamp, md_stack, md_before, md_left, md_made, md_madeSize, md_need, md_needs, md_newAt, md_newSize, md_news, md_common, md_keptAs, md_isNew, md_keptFrom, md_stateOf, md_rising])), (inA, .inl (cB, NI, .inl gi))] H := hP
      have hD : va_D A [(md, .inr (12, [md_tape, md_size, md_thrown, md_fault, md_bytes, md_used, md_at, md_length, md_depAt, md_firstChange, md_hashes, md_deps, md_patches, md_sort, md_of, md_fileOf, md_one, md_two, md_nameAt, md_nameSize, md_overAt, md_overCount, md_lineAt, md_lineCount, md_changes, md_overs, md_overTotal, md_lineChange, md_textAt, md_textSize, md_lines, md_fileChange, md_fileLines, md_files, md_sets, md_stamp, md_digest, .ref inA, .int (nI k1), .int (nI n), .int w1, md_dep, md_named, md_depCount, md_own, md_refFile, md_full, md_h, md_counts, md_marked, md_namings, md_namingCount, md_listed, md_listedCount, md_listedStamp, md_member, md_text, md_place, md_dead, md_edge, md_way, md_members, md_textLines, md_unsure, md_workedRepository, md_workedFile, md_workedStamp, md_stack, md_before, md_left, md_made, md_madeSize, md_need, md_needs, md_newAt, md_newSize, md_news, md_common, md_keptAs, md_isNew, md_keptFrom, md_stateOf, md_rising])), (inA, .inl (cB, NI, .inl gi))] := hD
      refine lv_iload_n hx hb d_Md_name0_26 rfl (lv_at hl 0 rfl) ?_
      refine lv_istore_n (lv' := [(3, .int (nI k)), (2, .int (nI k)), (0, .ref md), (1, .int (nI x))]) hx hb d_Md_name0_27 rfl hl (by decide) rfl (fun ls hl => ?_)
      have loop_28 : ∀ (n9 : Nat) (q : Nat) (w9 : Int32) (H : Heap) (locs : List Loc) (ls : Array Slot), k1 - q < n9 → (k ≤ q ∧ q ≤ k1) → ((w9 = w1 ∧ ∀ i, k ≤ i → i < q → ¬ f (a0 + i) < 33 ∧ f (a0 + i) ≤ 126) ∨ (w9 = 1 ∧ ¬ ∀ i, k ≤ i → i < k1 → ¬ f (a0 + i) < 33 ∧ f (a0 + i) ≤ 126)) → va_P (dC, dI) classes [(md, .inr (12, [md_tape, md_size, md_thrown, md_fault, md_bytes, md_used, md_at, md_length, md_depAt, md_firstChange, md_hashes, md_deps, md_patches, md_sort, md_of, md_fileOf, md_one, md_two, md_nameAt, md_nameSize, md_overAt, md_overCount, md_lineAt, md_lineCount, md_changes, md_overs, md_overTotal, md_lineChange, md_textAt, md_textSize, md_lines, md_fileChange, md_fileLines, md_files, md_sets, md_stamp, md_digest, .ref inA, .int (nI k1), .int (nI n), .int w9, md_dep, md_named, md_depCount, md_own, md_refFile, md_full, md_h, md_counts, md_marked, md_namings, md_namingCount, md_listed, md_listedCount, md_listedStamp, md_member, md_text, md_place, md_dead, md_edge, md_way, md_members, md_textLines, md_unsure, md_workedRepository, md_workedFile, md_workedStamp, md_stack, md_before, md_left, md_made, md_madeSize, md_need, md_needs, md_newAt, md_newSize, md_news, md_common, md_keptAs, md_isNew, md_keptFrom, md_stateOf, md_rising])), (inA, .inl (cB, NI, .inl gi))] H → va_D A [(md, .inr (12, [md_tape, md_size, md_thrown, md_fault, md_bytes, md_used, md_at, md_length, md_depAt, md_firstChange, md_hashes, md_deps, md_patches, md_sort, md_of, md_fileOf, md_one, md_two, md_nameAt, md_nameSize, md_overAt, md_overCount, md_lineAt, md_lineCount, md_changes, md_overs, md_overTotal, md_lineChange, md_textAt, md_textSize, md_lines, md_fileChange, md_fileLines, md_files, md_sets, md_stamp, md_digest, .ref inA, .int (nI k1), .int (nI n), .int w9, md_dep, md_named, md_depCount, md_own, md_refFile, md_full, md_h, md_counts, md_marked, md_namings, md_namingCount, md_listed, md_listedCount, md_listedStamp, md_member, md_text, md_place, md_dead, md_edge, md_way, md_members, md_textLines, md_unsure, md_workedRepository, md_workedFile, md_workedStamp, md_stack, md_before, md_left, md_made, md_madeSize, md_need, md_needs, md_newAt, md_newSize, md_news, md_common, md_keptAs, md_isNew, md_keptFrom, md_stateOf, md_rising])), (inA, .inl (cB, NI, .inl gi))] → va_S A s.heap H locs → lv_has ls 4 [(0, .ref md), (1, .int (nI x)), (2, .int (nI k)), (3, .int (nI q))] → W p l e (headSpec ws_Md_name0 ({ frames := 1, cells := 0, slots := 0, locals := 60 })).room s m ([.ref md, .int (nI x)] : List Value).toArray below meth c H locs 0 0 Q (F0 m 28 ls []) := by
        intro n9
        induction n9 with
        | zero => intro q w9 H locs ls hm; exact absurd hm (Nat.not_lt_zero _)
        | succ n9 ih_28 =>
          intro q w9 H locs ls hm hq hq9 hP hD hS hl
          refine lv_iload_n hx hb d_Md_name0_28 rfl (lv_at hl 3 rfl) ?_
          refine lv_aload_n hx hb d_Md_name0_29 rfl (lv_at hl 0 rfl) ?_
          refine va_get (D := (dC, dI)) (ci := 12) (v := .int (nI k1)) (C := R_Md) (T := F_Md) (N := 83) hx hb hts i_Md hown hK hP 0 rfl rfl 38 (by decide) (hts _ gw_1456) (fun _ h9 => h9) rfl d_Md_name0_30 ?_
          refine lv_icmp_ge (tgt := 69) hx hb d_Md_name0_33 (by decide) (fun c_33 => ?_) (fun c_33 => ?_)
          · have n_33 : k1 ≤ q := (nI_leI (a := k1) (b := q) (by omega) (by omega)).mp c_33
            rw [← hQe]
            exact W.vret hx hb hr (fun t ht hW => ⟨⟨(k1, w9), rfl, nm_fin (Or.inr ⟨rfl, by omega⟩) hsk (by omega) hq9, by rw [ht]; exact hP, va_K.moved hW.alike hK, hD⟩, hS.F ht⟩) hS.2.2 d_Md_name0_69
          · have n_33 : q < k1 := Nat.lt_of_not_le (fun z => c_33 ((nI_leI (a := k1) (b := q) (by omega) (by omega)).mpr z))
            refine lv_aload_n hx hb d_Md_name0_36 rfl (lv_at hl 0 rfl) ?_
            refine va_get (D := (dC, dI)) (ci := 12) (v := .ref inA) (C := R_Md) (T := F_Md) (N := 83) hx hb hts i_Md hown hK hP 0 rfl rfl 37 (by decide) (hts _ gw_1455) (fun _ h9 => h9) rfl d_Md_name0_37 ?_
            refine lv_iload_n hx hb d_Md_name0_40 rfl (lv_at hl 3 rfl) ?_
            refine va_bald hx hb hK hP 1 1 rfl rfl (vp_in_nI (by omega) (by omega)) d_Md_name0_41 ?_
            rw [show (nI q).toNatClampNeg = q from nI_clamp (by omega)]
            rw [hin q (by omega)]
            refine lv_bipush (v := 33) hx hb d_Md_name0_42 (by decide) ?_
            refine lv_icmp_lt (tgt := 58) hx hb d_Md_name0_44 (by decide) (fun c_44 => ?_) (fun c_44 => ?_)
            · refine lv_aload_n hx hb d_Md_name0_58 rfl (lv_at hl 0 rfl) ?_
              refine lv_iconst (v := 1) hx hb d_Md_name0_59 (by decide) ?_
              refine va_put (D := (dC, dI)) (ci := 12) (v := .int 1) (ty := .boolean) (C := R_Md) (T := F_Md) (N := 83) hx hb hts i_Md t_Md t_Md_ok n_Md hown hK hP hD hS 0 rfl rfl 40 (by decide) (hts _ gw_1458) (fun _ h9 => h9) rfl (by decide +kernel) nz_b1 rfl (Nat.le_of_ble_eq_true rfl) d_Md_name0_60 (fun H locs hP hD hS => ?_)
              have hP : va_P (dC, dI) classes [(md, .inr (12, [md_tape, md_size, md_thrown, md_fault, md_bytes, md_used, md_at, md_length, md_depAt, md_firstChange, md_hashes, md_deps, md_patches, md_sort, md_of, md_fileOf, md_one, md_two, md_nameAt, md_nameSize, md_overAt, md_overCount, md_lineAt, md_lineCount, md_changes, md_overs, md_overTotal, md_lineChange, md_textAt, md_textSize, md_lines, md_fileChange, md_fileLines, md_files, md_sets, md_stamp, md_digest, .ref inA, .int (nI k1), .int (nI n), .int 1, md_dep, md_named, md_depCount, md_own, md_refFile, md_full, md_h, md_counts, md_marked, md_namings, md_namingCount, md_listed, md_listedCount, md_listedStamp, md_member, md_text, md_place, md_dead, md_edge, md_way, md_members, md_textLines, md_unsure, md_workedRepository, md_workedFile, md_workedStamp, md_stack, md_before, md_left, md_made, md_madeSize, md_need, md_needs, md_newAt, md_newSize, md_news, md_common, md_keptAs, md_isNew, md_keptFrom, md_stateOf, md_rising])), (inA, .inl (cB, NI, .inl gi))] H := hP
              have hD : va_D A [(md, .inr (12, [md_tape, md_size, md_thrown, md_fault, md_bytes, md_used, md_at, md_length, md_depAt, md_firstChange, md_hashes, md_deps, md_patches, md_sort, md_of, md_fileOf, md_one, md_two, md_nameAt, md_nameSize, md_overAt, md_overCount, md_lineAt, md_lineCount, md_changes, md_overs, md_overTotal, md_lineChange, md_textAt, md_textSize, md_lines, md_fileChange, md_fileLines, md_files, md_sets, md_stamp, md_digest, .ref inA, .int (nI k1), .int (nI n), .int 1, md_dep, md_named, md_depCount, md_own, md_refFile, md_full, md_h, md_counts, md_marked, md_namings, md_namingCount, md_listed, md_listedCount, md_listedStamp, md_member, md_text, md_place, md_dead, md_edge, md_way, md_members, md_textLines, md_unsure, md_workedRepository, md_workedFile, md_workedStamp, md_stack, md_before, md_left, md_made, md_madeSize, md_need, md_needs, md_newAt, md_newSize, md_news, md_common, md_keptAs, md_isNew, md_keptFrom, md_stateOf, md_rising])), (inA, .inl (cB, NI, .inl gi))] := hD
              refine lv_iinc (v := nI (q + 1)) (lv' := [(3, .int (nI (q + 1))), (0, .ref md), (1, .int (nI x)), (2, .int (nI k))]) hx hb d_Md_name0_63 hl (k := 3) rfl (by exact nI_add _ _) (by decide) rfl (fun ls hl => ?_)
              refine lv_goto (tgt := 28) hx hb d_Md_name0_66 (by decide) ?_
              exact ih_28 (q + 1) 1 _ _ _ (by omega) (by omega) (Or.inr ⟨rfl, fun z => (z q (by omega) n_33).1 c_44⟩) hP hD hS (lv_sub hl [1, 2, 3, 0] rfl)
            · refine lv_aload_n hx hb d_Md_name0_47 rfl (lv_at hl 0 rfl) ?_
              refine va_get (D := (dC, dI)) (ci := 12) (v := .ref inA) (C := R_Md) (T := F_Md) (N := 83) hx hb hts i_Md hown hK hP 0 rfl rfl 37 (by decide) (hts _ gw_1455) (fun _ h9 => h9) rfl d_Md_name0_48 ?_
              refine lv_iload_n hx hb d_Md_name0_51 rfl (lv_at hl 3 rfl) ?_
              refine va_bald hx hb hK hP 1 1 rfl rfl (vp_in_nI (by omega) (by omega)) d_Md_name0_52 ?_
              rw [show (nI q).toNatClampNeg = q from nI_clamp (by omega)]
              rw [hin q (by omega)]
              refine lv_bipush (v := 126) hx hb d_Md_name0_53 (by decide) ?_
              refine lv_icmp_le (tgt := 63) hx hb d_Md_name0_55 (by decide) (fun c_55 => ?_) (fun c_55 => ?_)
              · refine lv_iinc (v := nI (q + 1)) (lv' := [(3, .int (nI (q + 1))), (0, .ref md), (1, .int (nI x)), (2, .int (nI k))]) hx hb d_Md_name0_63 hl (k := 3) rfl (by exact nI_add _ _) (by decide) rfl (fun ls hl => ?_)
                refine lv_goto (tgt := 28) hx hb d_Md_name0_66 (by decide) ?_
                exact ih_28 (q + 1) w9 _ _ _ (by omega) (by omega) (hq9.imp (fun z => ⟨z.1, fun i z1 z2 => if e9 : i = q then by rw [e9]; exact ⟨c_44, c_55⟩ else z.2 i z1 (by omega)⟩) id) hP hD hS (lv_sub hl [1, 2, 3, 0] rfl)
              · refine lv_aload_n hx hb d_Md_name0_58 rfl (lv_at hl 0 rfl) ?_
                refine lv_iconst (v := 1) hx hb d_Md_name0_59 (by decide) ?_
                refine va_put (D := (dC, dI)) (ci := 12) (v := .int 1) (ty := .boolean) (C := R_Md) (T := F_Md) (N := 83) hx hb hts i_Md t_Md t_Md_ok n_Md hown hK hP hD hS 0 rfl rfl 40 (by decide) (hts _ gw_1458) (fun _ h9 => h9) rfl (by decide +kernel) nz_b1 rfl (Nat.le_of_ble_eq_true rfl) d_Md_name0_60 (fun H locs hP hD hS => ?_)
                have hP : va_P (dC, dI) classes [(md, .inr (12, [md_tape, md_size, md_thrown, md_fault, md_bytes, md_used, md_at, md_length, md_depAt, md_firstChange, md_hashes, md_deps, md_patches, md_sort, md_of, md_fileOf, md_one, md_two, md_nameAt, md_nameSize, md_overAt, md_overCount, md_lineAt, md_lineCount, md_changes, md_overs, md_overTotal, md_lineChange, md_textAt, md_textSize, md_lines, md_fileChange, md_fileLines, md_files, md_sets, md_stamp, md_digest, .ref inA, .int (nI k1), .int (nI n), .int 1, md_dep, md_named, md_depCount, md_own, md_refFile, md_full, md_h, md_counts, md_marked, md_namings, md_namingCount, md_listed, md_listedCount, md_listedStamp, md_member, md_text, md_place, md_dead, md_edge, md_way, md_members, md_textLines, md_unsure, md_workedRepository, md_workedFile, md_workedStamp, md_stack, md_before, md_left, md_made, md_madeSize, md_need, md_needs, md_newAt, md_newSize, md_news, md_common, md_keptAs, md_isNew, md_keptFrom, md_stateOf, md_rising])), (inA, .inl (cB, NI, .inl gi))] H := hP
                have hD : va_D A [(md, .inr (12, [md_tape, md_size, md_thrown, md_fault, md_bytes, md_used, md_at, md_length, md_depAt, md_firstChange, md_hashes, md_deps, md_patches, md_sort, md_of, md_fileOf, md_one, md_two, md_nameAt, md_nameSize, md_overAt, md_overCount, md_lineAt, md_lineCount, md_changes, md_overs, md_overTotal, md_lineChange, md_textAt, md_textSize, md_lines, md_fileChange, md_fileLines, md_files, md_sets, md_stamp, md_digest, .ref inA, .int (nI k1), .int (nI n), .int 1, md_dep, md_named, md_depCount, md_own, md_refFile, md_full, md_h, md_counts, md_marked, md_namings, md_namingCount, md_listed, md_listedCount, md_listedStamp, md_member, md_text, md_place, md_dead, md_edge, md_way, md_members, md_textLines, md_unsure, md_workedRepository, md_workedFile, md_workedStamp, md_stack, md_before, md_left, md_made, md_madeSize, md_need, md_needs, md_newAt, md_newSize, md_news, md_common, md_keptAs, md_isNew, md_keptFrom, md_stateOf, md_rising])), (inA, .inl (cB, NI, .inl gi))] := hD
                refine lv_iinc (v := nI (q + 1)) (lv' := [(3, .int (nI (q + 1))), (0, .ref md), (1, .int (nI x)), (2, .int (nI k))]) hx hb d_Md_name0_63 hl (k := 3) rfl (by exact nI_add _ _) (by decide) rfl (fun ls hl => ?_)
                refine lv_goto (tgt := 28) hx hb d_Md_name0_66 (by decide) ?_
                exact ih_28 (q + 1) 1 _ _ _ (by omega) (by omega) (Or.inr ⟨rfl, fun z => absurd (z q (by omega) n_33).2 c_55⟩) hP hD hS (lv_sub hl [1, 2, 3, 0] rfl)
      exact loop_28 _ k w1 _ _ _ (Nat.lt_succ_self _) (⟨Nat.le_refl _, hskb.1⟩) (Or.inl ⟨rfl, fun i z1 z2 => absurd z2 (by omega)⟩) hP hD hS (lv_sub hl [2, 3, 1, 0] rfl)
