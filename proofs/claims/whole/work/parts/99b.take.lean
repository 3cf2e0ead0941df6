/-! 99b.take.lean.txt -/
theorem gw_141 : (Jvm.Cond.fieldLink "PatchStore$Text" (195 : Nat) "PatchStore$Lines" "length" "[I") ∈ xg_1 := xg_s1 141 rfl rfl
theorem gw_379 : (Jvm.Cond.fieldLink "PatchStore$Text" (179 : Nat) "PatchStore$Text" "length" "I") ∈ xg_1 := xg_s2 139 rfl rfl
theorem gw_380 : (Jvm.Cond.fieldLink "PatchStore$Text" (182 : Nat) "PatchStore$Text" "size" "I") ∈ xg_1 := xg_s2 140 rfl rfl
theorem gw_382 : (Jvm.Cond.fieldLink "PatchStore$Text" (185 : Nat) "PatchStore$Text" "unsure" "I") ∈ xg_1 := xg_s2 142 rfl rfl
theorem gw_1102 : (Jvm.Cond.methodLink "PatchStore$Text" (93 : Nat) ({ cls := "PatchStore$Text", name := "reaches", desc := "(II)Z" } : Jvm.MethodName)) ∈ xg_1 := xg_s5 142 rfl rfl
theorem gw_1104 : (Jvm.Cond.instanceMethod ({ cls := "PatchStore$Text", name := "reaches", desc := "(II)Z" } : Jvm.MethodName)) ∈ xg_1 := xg_s5 144 rfl rfl
theorem gw_1105 : (Jvm.Cond.code ({ cls := "PatchStore$Text", name := "reaches", desc := "(II)Z" } : Jvm.MethodName) prog_11_method_12_code (3 : Nat) (Option.some Jvm.ClassFile.FieldType.boolean)) ∈ xg_1 := xg_s5 145 rfl rfl
def y_Tx_countWaits : MethodName := ⟨"PatchStore$Text", "countWaits", "(I)I"⟩
abbrev c_Tx_countWaits : Cond := (Jvm.Cond.code ({ cls := "PatchStore$Text", name := "countWaits", desc := "(I)I" } : Jvm.MethodName) prog_11_method_16_code (4 : Nat) (Option.some Jvm.ClassFile.FieldType.int))
abbrev ws_Tx_countWaits : List Cond := c_Tx_countWaits :: xg_1
theorem d_Tx_countWaits_0 : decode prog_11_method_16_code 0 = .ok (.iconst 0, 1) := by decide +kernel
theorem d_Tx_countWaits_1 : decode prog_11_method_16_code 1 = .ok (.istore_n 2, 1) := by decide +kernel
theorem d_Tx_countWaits_2 : decode prog_11_method_16_code 2 = .ok (.iconst 0, 1) := by decide +kernel
theorem d_Tx_countWaits_3 : decode prog_11_method_16_code 3 = .ok (.istore_n 3, 1) := by decide +kernel
theorem d_Tx_countWaits_4 : decode prog_11_method_16_code 4 = .ok (.iload_n 3, 1) := by decide +kernel
theorem d_Tx_countWaits_5 : decode prog_11_method_16_code 5 = .ok (.aload_n 0, 1) := by decide +kernel
theorem d_Tx_countWaits_6 : decode prog_11_method_16_code 6 = .ok (.getfield 97, 3) := by decide +kernel
theorem d_Tx_countWaits_9 : decode prog_11_method_16_code 9 = .ok (.if_icmp .ge 39, 3) := by decide +kernel
theorem d_Tx_countWaits_12 : decode prog_11_method_16_code 12 = .ok (.aload_n 0, 1) := by decide +kernel
theorem d_Tx_countWaits_13 : decode prog_11_method_16_code 13 = .ok (.getfield 28, 3) := by decide +kernel
theorem d_Tx_countWaits_16 : decode prog_11_method_16_code 16 = .ok (.iload_n 3, 1) := by decide +kernel
theorem d_Tx_countWaits_17 : decode prog_11_method_16_code 17 = .ok (.iaload, 1) := by decide +kernel
theorem d_Tx_countWaits_18 : decode prog_11_method_16_code 18 = .ok (.ifCond .ne 24, 3) := by decide +kernel
theorem d_Tx_countWaits_21 : decode prog_11_method_16_code 21 = .ok (.aload_n 0, 1) := by decide +kernel
theorem d_Tx_countWaits_22 : decode prog_11_method_16_code 22 = .ok (.iload_n 3, 1) := by decide +kernel
theorem d_Tx_countWaits_23 : decode prog_11_method_16_code 23 = .ok (.iload_n 1, 1) := by decide +kernel
theorem d_Tx_countWaits_24 : decode prog_11_method_16_code 24 = .ok (.invokevirtual 93, 3) := by decide +kernel
theorem d_Tx_countWaits_27 : decode prog_11_method_16_code 27 = .ok (.ifCond .eq 15, 3) := by decide +kernel
theorem d_Tx_countWaits_30 : decode prog_11_method_16_code 30 = .ok (.aload_n 0, 1) := by decide +kernel
theorem d_Tx_countWaits_31 : decode prog_11_method_16_code 31 = .ok (.iload_n 1, 1) := by decide +kernel
theorem d_Tx_countWaits_32 : decode prog_11_method_16_code 32 = .ok (.iload_n 3, 1) := by decide +kernel
theorem d_Tx_countWaits_33 : decode prog_11_method_16_code 33 = .ok (.invokevirtual 93, 3) := by decide +kernel
theorem d_Tx_countWaits_36 : decode prog_11_method_16_code 36 = .ok (.ifCond .ne 6, 3) := by decide +kernel
theorem d_Tx_countWaits_39 : decode prog_11_method_16_code 39 = .ok (.iinc 2 1, 3) := by decide +kernel
theorem d_Tx_countWaits_42 : decode prog_11_method_16_code 42 = .ok (.iinc 3 1, 3) := by decide +kernel
theorem d_Tx_countWaits_45 : decode prog_11_method_16_code 45 = .ok (.goto (-41), 3) := by decide +kernel
theorem d_Tx_countWaits_48 : decode prog_11_method_16_code 48 = .ok (.iload_n 2, 1) := by decide +kernel
theorem d_Tx_countWaits_49 : decode prog_11_method_16_code 49 = .ok (.ireturn, 1) := by decide +kernel
def y_Tx_leastFree : MethodName := ⟨"PatchStore$Text", "leastFree", "()I"⟩
abbrev c_Tx_leastFree : Cond := (Jvm.Cond.code ({ cls := "PatchStore$Text", name := "leastFree", desc := "()I" } : Jvm.MethodName) prog_11_method_17_code (3 : Nat) (Option.some Jvm.ClassFile.FieldType.int))
abbrev ws_Tx_leastFree : List Cond := c_Tx_leastFree :: xg_1
theorem d_Tx_leastFree_0 : decode prog_11_method_17_code 0 = .ok (.iconst (-1), 1) := by decide +kernel
theorem d_Tx_leastFree_1 : decode prog_11_method_17_code 1 = .ok (.istore_n 1, 1) := by decide +kernel
theorem d_Tx_leastFree_2 : decode prog_11_method_17_code 2 = .ok (.iconst 0, 1) := by decide +kernel
theorem d_Tx_leastFree_3 : decode prog_11_method_17_code 3 = .ok (.istore_n 2, 1) := by decide +kernel
theorem d_Tx_leastFree_4 : decode prog_11_method_17_code 4 = .ok (.iload_n 2, 1) := by decide +kernel
theorem d_Tx_leastFree_5 : decode prog_11_method_17_code 5 = .ok (.aload_n 0, 1) := by decide +kernel
theorem d_Tx_leastFree_6 : decode prog_11_method_17_code 6 = .ok (.getfield 97, 3) := by decide +kernel
theorem d_Tx_leastFree_9 : decode prog_11_method_17_code 9 = .ok (.if_icmp .ge 46, 3) := by decide +kernel
theorem d_Tx_leastFree_12 : decode prog_11_method_17_code 12 = .ok (.aload_n 0, 1) := by decide +kernel
theorem d_Tx_leastFree_13 : decode prog_11_method_17_code 13 = .ok (.getfield 28, 3) := by decide +kernel
theorem d_Tx_leastFree_16 : decode prog_11_method_17_code 16 = .ok (.iload_n 2, 1) := by decide +kernel
theorem d_Tx_leastFree_17 : decode prog_11_method_17_code 17 = .ok (.iaload, 1) := by decide +kernel
theorem d_Tx_leastFree_18 : decode prog_11_method_17_code 18 = .ok (.ifCond .ne 31, 3) := by decide +kernel
theorem d_Tx_leastFree_21 : decode prog_11_method_17_code 21 = .ok (.aload_n 0, 1) := by decide +kernel
theorem d_Tx_leastFree_22 : decode prog_11_method_17_code 22 = .ok (.getfield 31, 3) := by decide +kernel
theorem d_Tx_leastFree_25 : decode prog_11_method_17_code 25 = .ok (.iload_n 2, 1) := by decide +kernel
theorem d_Tx_leastFree_26 : decode prog_11_method_17_code 26 = .ok (.iaload, 1) := by decide +kernel
theorem d_Tx_leastFree_27 : decode prog_11_method_17_code 27 = .ok (.ifCond .ne 22, 3) := by decide +kernel
theorem d_Tx_leastFree_30 : decode prog_11_method_17_code 30 = .ok (.iload_n 1, 1) := by decide +kernel
theorem d_Tx_leastFree_31 : decode prog_11_method_17_code 31 = .ok (.iconst (-1), 1) := by decide +kernel
theorem d_Tx_leastFree_32 : decode prog_11_method_17_code 32 = .ok (.if_icmp .eq 15, 3) := by decide +kernel
theorem d_Tx_leastFree_35 : decode prog_11_method_17_code 35 = .ok (.aload_n 0, 1) := by decide +kernel
theorem d_Tx_leastFree_36 : decode prog_11_method_17_code 36 = .ok (.dup, 1) := by decide +kernel
theorem d_Tx_leastFree_37 : decode prog_11_method_17_code 37 = .ok (.getfield 185, 3) := by decide +kernel
theorem d_Tx_leastFree_40 : decode prog_11_method_17_code 40 = .ok (.iconst 1, 1) := by decide +kernel
theorem d_Tx_leastFree_41 : decode prog_11_method_17_code 41 = .ok (.iadd, 1) := by decide +kernel
theorem d_Tx_leastFree_42 : decode prog_11_method_17_code 42 = .ok (.putfield 185, 3) := by decide +kernel
theorem d_Tx_leastFree_45 : decode prog_11_method_17_code 45 = .ok (.iload_n 1, 1) := by decide +kernel
theorem d_Tx_leastFree_46 : decode prog_11_method_17_code 46 = .ok (.ireturn, 1) := by decide +kernel
theorem d_Tx_leastFree_47 : decode prog_11_method_17_code 47 = .ok (.iload_n 2, 1) := by decide +kernel
theorem d_Tx_leastFree_48 : decode prog_11_method_17_code 48 = .ok (.istore_n 1, 1) := by decide +kernel
theorem d_Tx_leastFree_49 : decode prog_11_method_17_code 49 = .ok (.iinc 2 1, 3) := by decide +kernel
theorem d_Tx_leastFree_52 : decode prog_11_method_17_code 52 = .ok (.goto (-48), 3) := by decide +kernel
theorem d_Tx_leastFree_55 : decode prog_11_method_17_code 55 = .ok (.iload_n 1, 1) := by decide +kernel
theorem d_Tx_leastFree_56 : decode prog_11_method_17_code 56 = .ok (.ireturn, 1) := by decide +kernel
def y_Tx_takeSlot : MethodName := ⟨"PatchStore$Text", "takeSlot", "(I)V"⟩
abbrev c_Tx_takeSlot : Cond := (Jvm.Cond.code ({ cls := "PatchStore$Text", name := "takeSlot", desc := "(I)V" } : Jvm.MethodName) prog_11_method_18_code (3 : Nat) (Option.none : Option Jvm.ClassFile.FieldType))
abbrev ws_Tx_takeSlot : List Cond := c_Tx_takeSlot :: xg_1
theorem d_Tx_takeSlot_0 : decode prog_11_method_18_code 0 = .ok (.aload_n 0, 1) := by decide +kernel
theorem d_Tx_takeSlot_1 : decode prog_11_method_18_code 1 = .ok (.getfield 28, 3) := by decide +kernel
theorem d_Tx_takeSlot_4 : decode prog_11_method_18_code 4 = .ok (.iload_n 1, 1) := by decide +kernel
theorem d_Tx_takeSlot_5 : decode prog_11_method_18_code 5 = .ok (.iconst 1, 1) := by decide +kernel
theorem d_Tx_takeSlot_6 : decode prog_11_method_18_code 6 = .ok (.iastore, 1) := by decide +kernel
theorem d_Tx_takeSlot_7 : decode prog_11_method_18_code 7 = .ok (.aload_n 0, 1) := by decide +kernel
theorem d_Tx_takeSlot_8 : decode prog_11_method_18_code 8 = .ok (.getfield 9, 3) := by decide +kernel
theorem d_Tx_takeSlot_11 : decode prog_11_method_18_code 11 = .ok (.aload_n 0, 1) := by decide +kernel
theorem d_Tx_takeSlot_12 : decode prog_11_method_18_code 12 = .ok (.getfield 179, 3) := by decide +kernel
theorem d_Tx_takeSlot_15 : decode prog_11_method_18_code 15 = .ok (.aload_n 0, 1) := by decide +kernel
theorem d_Tx_takeSlot_16 : decode prog_11_method_18_code 16 = .ok (.getfield 15, 3) := by decide +kernel
theorem d_Tx_takeSlot_19 : decode prog_11_method_18_code 19 = .ok (.iload_n 1, 1) := by decide +kernel
theorem d_Tx_takeSlot_20 : decode prog_11_method_18_code 20 = .ok (.iaload, 1) := by decide +kernel
theorem d_Tx_takeSlot_21 : decode prog_11_method_18_code 21 = .ok (.iastore, 1) := by decide +kernel
theorem d_Tx_takeSlot_22 : decode prog_11_method_18_code 22 = .ok (.aload_n 0, 1) := by decide +kernel
theorem d_Tx_takeSlot_23 : decode prog_11_method_18_code 23 = .ok (.dup, 1) := by decide +kernel
theorem d_Tx_takeSlot_24 : decode prog_11_method_18_code 24 = .ok (.getfield 179, 3) := by decide +kernel
theorem d_Tx_takeSlot_27 : decode prog_11_method_18_code 27 = .ok (.iconst 1, 1) := by decide +kernel
theorem d_Tx_takeSlot_28 : decode prog_11_method_18_code 28 = .ok (.iadd, 1) := by decide +kernel
theorem d_Tx_takeSlot_29 : decode prog_11_method_18_code 29 = .ok (.putfield 179, 3) := by decide +kernel
theorem d_Tx_takeSlot_32 : decode prog_11_method_18_code 32 = .ok (.aload_n 0, 1) := by decide +kernel
theorem d_Tx_takeSlot_33 : decode prog_11_method_18_code 33 = .ok (.dup, 1) := by decide +kernel
theorem d_Tx_takeSlot_34 : decode prog_11_method_18_code 34 = .ok (.getfield 182, 3) := by decide +kernel
theorem d_Tx_takeSlot_37 : decode prog_11_method_18_code 37 = .ok (.aload_n 0, 1) := by decide +kernel
theorem d_Tx_takeSlot_38 : decode prog_11_method_18_code 38 = .ok (.getfield 49, 3) := by decide +kernel
theorem d_Tx_takeSlot_41 : decode prog_11_method_18_code 41 = .ok (.getfield 195, 3) := by decide +kernel
theorem d_Tx_takeSlot_44 : decode prog_11_method_18_code 44 = .ok (.aload_n 0, 1) := by decide +kernel
theorem d_Tx_takeSlot_45 : decode prog_11_method_18_code 45 = .ok (.getfield 15, 3) := by decide +kernel
theorem d_Tx_takeSlot_48 : decode prog_11_method_18_code 48 = .ok (.iload_n 1, 1) := by decide +kernel
theorem d_Tx_takeSlot_49 : decode prog_11_method_18_code 49 = .ok (.iaload, 1) := by decide +kernel
theorem d_Tx_takeSlot_50 : decode prog_11_method_18_code 50 = .ok (.iaload, 1) := by decide +kernel
theorem d_Tx_takeSlot_51 : decode prog_11_method_18_code 51 = .ok (.iadd, 1) := by decide +kernel
theorem d_Tx_takeSlot_52 : decode prog_11_method_18_code 52 = .ok (.putfield 182, 3) := by decide +kernel
theorem d_Tx_takeSlot_55 : decode prog_11_method_18_code 55 = .ok (.iconst 0, 1) := by decide +kernel
theorem d_Tx_takeSlot_56 : decode prog_11_method_18_code 56 = .ok (.istore_n 2, 1) := by decide +kernel
theorem d_Tx_takeSlot_57 : decode prog_11_method_18_code 57 = .ok (.iload_n 2, 1) := by decide +kernel
theorem d_Tx_takeSlot_58 : decode prog_11_method_18_code 58 = .ok (.aload_n 0, 1) := by decide +kernel
theorem d_Tx_takeSlot_59 : decode prog_11_method_18_code 59 = .ok (.getfield 97, 3) := by decide +kernel
theorem d_Tx_takeSlot_62 : decode prog_11_method_18_code 62 = .ok (.if_icmp .ge 46, 3) := by decide +kernel
theorem d_Tx_takeSlot_65 : decode prog_11_method_18_code 65 = .ok (.aload_n 0, 1) := by decide +kernel
theorem d_Tx_takeSlot_66 : decode prog_11_method_18_code 66 = .ok (.getfield 28, 3) := by decide +kernel
theorem d_Tx_takeSlot_69 : decode prog_11_method_18_code 69 = .ok (.iload_n 2, 1) := by decide +kernel
theorem d_Tx_takeSlot_70 : decode prog_11_method_18_code 70 = .ok (.iaload, 1) := by decide +kernel
theorem d_Tx_takeSlot_71 : decode prog_11_method_18_code 71 = .ok (.ifCond .ne 31, 3) := by decide +kernel
theorem d_Tx_takeSlot_74 : decode prog_11_method_18_code 74 = .ok (.aload_n 0, 1) := by decide +kernel
theorem d_Tx_takeSlot_75 : decode prog_11_method_18_code 75 = .ok (.iload_n 1, 1) := by decide +kernel
theorem d_Tx_takeSlot_76 : decode prog_11_method_18_code 76 = .ok (.iload_n 2, 1) := by decide +kernel
theorem d_Tx_takeSlot_77 : decode prog_11_method_18_code 77 = .ok (.invokevirtual 93, 3) := by decide +kernel
theorem d_Tx_takeSlot_80 : decode prog_11_method_18_code 80 = .ok (.ifCond .eq 22, 3) := by decide +kernel
theorem d_Tx_takeSlot_83 : decode prog_11_method_18_code 83 = .ok (.aload_n 0, 1) := by decide +kernel
theorem d_Tx_takeSlot_84 : decode prog_11_method_18_code 84 = .ok (.iload_n 2, 1) := by decide +kernel
theorem d_Tx_takeSlot_85 : decode prog_11_method_18_code 85 = .ok (.iload_n 1, 1) := by decide +kernel
theorem d_Tx_takeSlot_86 : decode prog_11_method_18_code 86 = .ok (.invokevirtual 93, 3) := by decide +kernel
theorem d_Tx_takeSlot_89 : decode prog_11_method_18_code 89 = .ok (.ifCond .ne 13, 3) := by decide +kernel
theorem d_Tx_takeSlot_92 : decode prog_11_method_18_code 92 = .ok (.aload_n 0, 1) := by decide +kernel
theorem d_Tx_takeSlot_93 : decode prog_11_method_18_code 93 = .ok (.getfield 31, 3) := by decide +kernel
theorem d_Tx_takeSlot_96 : decode prog_11_method_18_code 96 = .ok (.iload_n 2, 1) := by decide +kernel
theorem d_Tx_takeSlot_97 : decode prog_11_method_18_code 97 = .ok (.dup2, 1) := by decide +kernel
theorem d_Tx_takeSlot_98 : decode prog_11_method_18_code 98 = .ok (.iaload, 1) := by decide +kernel
theorem d_Tx_takeSlot_99 : decode prog_11_method_18_code 99 = .ok (.iconst 1, 1) := by decide +kernel
theorem d_Tx_takeSlot_100 : decode prog_11_method_18_code 100 = .ok (.isub, 1) := by decide +kernel
theorem d_Tx_takeSlot_101 : decode prog_11_method_18_code 101 = .ok (.iastore, 1) := by decide +kernel
theorem d_Tx_takeSlot_102 : decode prog_11_method_18_code 102 = .ok (.iinc 2 1, 3) := by decide +kernel
theorem d_Tx_takeSlot_105 : decode prog_11_method_18_code 105 = .ok (.goto (-48), 3) := by decide +kernel
theorem d_Tx_takeSlot_108 : decode prog_11_method_18_code 108 = .ok (.return_, 1) := by decide +kernel
/-- slot a must be taken before slot b -/
def befB (re : Nat → Int64) (a b : Nat) : Bool := btr re (a * 7) b && !btr re (b * 7) a
/-- how many that are not gone must be taken before slot a -/
def wtB (re : Nat → Int64) (go : Nat → Int32) (a o : Nat) : Bool := (go o == 0) && befB re o a
def wtN (re : Nat → Int64) (go : Nat → Int32) (n a : Nat) : Nat := cnt (wtB re go a) n
/-- slot a is free -/
def frB (re : Nat → Int64) (go : Nat → Int32) (n a : Nat) : Bool := (go a == 0) && (wtN re go n a == 0)
/-- the least that is so -/
def lfO (b : Nat → Bool) : Nat → Option Nat
  | 0 => none
  | n + 1 => match lfO b n with
    | some a => some a
    | none => if b n = true then some n else none
def ofO : Option Nat → Int32
  | none => -1
  | some a => nI a
def nO : Option Nat → Nat
  | none => 0
  | some _ => 1
theorem lfO_some {b : Nat → Bool} {n a : Nat} (h : lfO b n = some a) : lfO b (n + 1) = some a := by
  show (match lfO b n with | some a => some a | none => if b n = true then some n else none) = _
  rw [h]
theorem lfO_yes {b : Nat → Bool} {n : Nat} (h : lfO b n = none) (hb : b n = true) : lfO b (n + 1) = some n := by
  show (match lfO b n with | some a => some a | none => if b n = true then some n else none) = _
  rw [h]
  exact if_pos hb
theorem lfO_no {b : Nat → Bool} {n : Nat} (h : lfO b n = none) (hb : ¬ b n = true) : lfO b (n + 1) = none := by
  show (match lfO b n with | some a => some a | none => if b n = true then some n else none) = _
  rw [h]
  exact if_neg hb
theorem lfO_none {b : Nat → Bool} : ∀ {n}, lfO b n = none → ∀ k, k < n → b k = false
  | 0, _, k, hk => absurd hk (Nat.not_lt_zero _)
  | n + 1, h, k, hk => by
    cases e : lfO b n with
    | some c => rw [lfO_some e] at h; cases h
    | none =>
      by_cases hb : b n = true
      · rw [lfO_yes e hb] at h; cases h
      · by_cases z : k = n
        · subst z; exact Bool.eq_false_iff.mpr hb
        · exact lfO_none e k (by omega)
theorem lfO_spec {b : Nat → Bool} : ∀ {n a}, lfO b n = some a → a < n ∧ b a = true ∧ ∀ k, k < a → b k = false
  | 0, _, h => by cases h
  | n + 1, a, h => by
    cases e : lfO b n with
    | some c =>
      rw [lfO_some e] at h
      cases h
      obtain ⟨h1, h2, h3⟩ := lfO_spec e
      exact ⟨by omega, h2, h3⟩
    | none =>
      by_cases hb : b n = true
      · rw [lfO_yes e hb] at h
        cases h
        exact ⟨by omega, hb, lfO_none e⟩
      · rw [lfO_no e hb] at h; cases h
theorem cnt_mono {b : Nat → Bool} {m : Nat} : ∀ {n}, m ≤ n → cnt b m ≤ cnt b n
  | 0, h => by rw [show m = 0 by omega]; exact Nat.le_refl _
  | n + 1, h => by
    by_cases e : m = n + 1
    · rw [e]; exact Nat.le_refl _
    · have := cnt_mono (b := b) (m := m) (n := n) (by omega)
      show _ ≤ cnt b n + (if b n then 1 else 0)
      omega
/-- the lines are taken: the slots in their order, and how often there was another -/
def grd (re : Nat → Int64) (n : Nat) : Nat → (Nat → Int32) → List Nat × Nat
  | 0, _ => ([], 0)
  | k + 1, go => match lfO (frB re go n) n with
    | none => ([], 0)
    | some a => (a :: (grd re n k (upd go a 1)).1, (grd re n k (upd go a 1)).2 + (if 2 ≤ cnt (frB re go n) n then 1 else 0))
theorem grd_none {re : Nat → Int64} {n k : Nat} {go : Nat → Int32} (h : lfO (frB re go n) n = none) : grd re n (k + 1) go = ([], 0) := by
  show (match lfO (frB re go n) n with | none => _ | some a => _) = _
  rw [h]
theorem grd_some {re : Nat → Int64} {n k a : Nat} {go : Nat → Int32} (h : lfO (frB re go n) n = some a) : grd re n (k + 1) go = (a :: (grd re n k (upd go a 1)).1, (grd re n k (upd go a 1)).2 + (if 2 ≤ cnt (frB re go n) n then 1 else 0)) := by
  show (match lfO (frB re go n) n with | none => _ | some a => _) = _
  rw [h]
/-- the waits are right where a slot is not gone -/
def wtR (re : Nat → Int64) (go wt : Nat → Int32) (n : Nat) : Prop := ∀ a, a < n → go a = 0 → wt a = nI (wtN re go n a)
theorem wtR.fr {re : Nat → Int64} {go wt : Nat → Int32} {n : Nat} (h : wtR re go wt n) (hn : n ≤ 400) {a : Nat} (ha : a < n) : frB re go n a = true ↔ (go a = 0 ∧ wt a = 0) := by
  unfold frB
  rw [Bool.and_eq_true, beq_iff_eq, beq_iff_eq]
  constructor
  · rintro ⟨h1, h2⟩
    refine ⟨h1, ?_⟩
    rw [h a ha h1, h2]; rfl
  · rintro ⟨h1, h2⟩
    refine ⟨h1, ?_⟩
    rw [h a ha h1] at h2
    have := cnt_le (wtB re go a) n
    exact (nI_eq (b := 0) (by unfold wtN; omega) (by omega)).mp h2
theorem wtN_up {re : Nat → Int64} {go : Nat → Int32} {n s a : Nat} (hs : s < n) (hg : go s = 0) : wtN re go n a = wtN re (upd go s 1) n a + (if befB re s a = true then 1 else 0) := by
  unfold wtN
  cases hb : befB re s a with
  | true =>
    have e1 : ∀ i, wtB re (upd go s 1) a i = (wtB re go a i && !decide (i = s)) := fun i => by
      unfold wtB
      by_cases e : i = s
      · subst e; rw [upd_eq]; simp
      · rw [upd_ne _ e]; simp [e]
    have e2 : wtB re go a s = true := by
      unfold wtB
      rw [hg, hb]; rfl
    have := cnt_un e1 e2 n
    rw [this, if_pos hs]; rfl
  | false =>
    have e1 : ∀ i, i < n → wtB re go a i = wtB re (upd go s 1) a i := fun i _ => by
      unfold wtB
      by_cases e : i = s
      · subst e; rw [hb]; simp
      · rw [upd_ne _ e]
    rw [cnt_congr n e1]; rfl
/-- the waits once slot s is taken, those of the first o slots -/
def wtU (re : Nat → Int64) (go wt : Nat → Int32) (s o : Nat) : Nat → Int32 := fun a => if a < o ∧ (upd go s 1 a = 0 ∧ befB re s a = true) then wt a - 1 else wt a
theorem wtU_0 (re : Nat → Int64) (go wt : Nat → Int32) (s : Nat) : wtU re go wt s 0 = wt := by
  funext a
  unfold wtU
  rw [if_neg (by omega)]
theorem wtU_no {re : Nat → Int64} {go wt : Nat → Int32} {s o : Nat} (h : ¬ (upd go s 1 o = 0 ∧ befB re s o = true)) : wtU re go wt s o = wtU re go wt s (o + 1) := by
  funext a
  unfold wtU
  by_cases e : a = o
  · subst e
    rw [if_neg (fun z => h z.2), if_neg (fun z => h z.2)]
  · by_cases z : a < o ∧ (upd go s 1 a = 0 ∧ befB re s a = true)
    · rw [if_pos z, if_pos ⟨by omega, z.2⟩]
    · rw [if_neg z, if_neg (fun w => z ⟨by omega, w.2⟩)]
theorem wtU_yes {re : Nat → Int64} {go wt : Nat → Int32} {s o : Nat} (h : upd go s 1 o = 0 ∧ befB re s o = true) : upd (wtU re go wt s o) o (wtU re go wt s o o - 1) = wtU re go wt s (o + 1) := by
  funext a
  by_cases e : a = o
  · subst e
    rw [upd_eq]
    unfold wtU
    rw [if_neg (by omega), if_pos ⟨by omega, h⟩]
  · rw [upd_ne _ e]
    unfold wtU
    by_cases z : a < o ∧ (upd go s 1 a = 0 ∧ befB re s a = true)
    · rw [if_pos z, if_pos ⟨by omega, z.2⟩]
    · rw [if_neg z, if_neg (fun w => z ⟨by omega, w.2⟩)]
theorem wtR.take {re : Nat → Int64} {go wt : Nat → Int32} {n s : Nat} (h : wtR re go wt n) (hn : n ≤ 400) (hs : s < n) (hg : go s = 0) : wtR re (upd go s 1) (wtU re go wt s n) n := by
  intro a ha h0
  have hne : ¬ a = s := fun z => by rw [z, upd_eq] at h0; exact absurd h0 (by decide)
  have hga : go a = 0 := by rw [upd_ne _ hne] at h0; exact h0
  have e := wtN_up (re := re) (n := n) (s := s) (a := a) hs hg
  unfold wtU
  by_cases z : befB re s a = true
  · rw [if_pos ⟨ha, h0, z⟩, h a ha hga, e, if_pos z]
    exact (nI_subN (a := _ + 1) (b := 1) (by omega)).trans (by rw [Nat.add_sub_cancel])
  · rw [if_neg (fun w => z w.2.2), h a ha hga, e, if_neg z]; rfl
/-- the sum of the lengths of the lines -/
def szN (LN : Nat → Nat) : List Nat → Nat
  | [] => 0
  | x :: t => LN x + szN LN t
theorem szN_app (LN : Nat → Nat) (x : Nat) : ∀ A : List Nat, szN LN (A ++ [x]) = szN LN A + LN x
  | [] => by show LN x + 0 = 0 + LN x; omega
  | y :: t => by
    show LN y + szN LN (t ++ [x]) = LN y + szN LN t + LN x
    rw [szN_app LN x t]; omega
theorem szN_le {LN : Nat → Nat} (h : ∀ x, LN x ≤ 500) : ∀ A : List Nat, szN LN A ≤ 500 * A.length
  | [] => Nat.le_refl _
  | y :: t => by
    have := szN_le h t
    have := h y
    show LN y + szN LN t ≤ 500 * (t.length + 1)
    omega
theorem lfO_far {b : Nat → Bool} {i a : Nat} (h : lfO b i = some a) : ∀ {n}, i ≤ n → lfO b n = some a
  | 0, z => by rw [show i = 0 by omega] at h; exact h
  | n + 1, z => by
    by_cases e : i = n + 1
    · rw [← e]; exact h
    · exact lfO_some (lfO_far h (n := n) (by omega))
theorem nO_le (o : Option Nat) : nO o ≤ 1 := by
  cases o with
  | none => exact Nat.zero_le _
  | some a => exact Nat.le_refl _
set_option maxHeartbeats 4000000 in
set_option maxRecDepth 100000 in
/-- how many a slot waits for -/
theorem m_Tx_countWaits (l : Launch) (dC : Nat → ClassId) (dI : Nat → Nat → Nat) (cI cB cL cZ cR : ClassId) (h goA reA : Nat) (tx_order tx_length tx_size tx_unsure tx_stranded tx_dead tx_stock tx_changes tx_lines tx_loaded tx_version tx_loadedFile tx_rows tx_slots tx_deleters tx_waits : Value) (go : Nat → Int32) (re : Nat → Int64) (nn s9 : Nat) (sz : Nat) (hnn : nn ≤ 400) (hs9 : s9 < nn) : Met l y_Tx_countWaits ws_Tx_countWaits ({ frames := 1, cells := 0, slots := 0, locals := 60 }) (xw_Pc dC dI [(cI, .int), (cB, .byte), (cL, .long), (cZ, .boolean), (cR, .object "PatchStore$Repository")] [.ref h, .int (nI s9)] [(h, .inr (10, [tx_order, tx_length, tx_size, tx_unsure, tx_stranded, tx_dead, tx_stock, tx_changes, tx_lines, tx_loaded, tx_version, tx_loadedFile, tx_rows, tx_slots, .int (nI nn), .ref reA, tx_deleters, .ref goA, tx_waits])), (goA, .inl (cI, 400, .inl go)), (reA, .inl (cL, 2800, .inr (.inl re)))] sz) (va_Qi (fun (r : Int32) (_ : Unit) => r = nI (wtN re go nn s9)) (fun _ t => xw_B dC dI [(cI, .int), (cB, .byte), (cL, .long), (cZ, .boolean), (cR, .object "PatchStore$Repository")] (va_A [(h, .inr (10, [tx_order, tx_length, tx_size, tx_unsure, tx_stranded, tx_dead, tx_stock, tx_changes, tx_lines, tx_loaded, tx_version, tx_loadedFile, tx_rows, tx_slots, .int (nI nn), .ref reA, tx_deleters, .ref goA, tx_waits])), (goA, .inl (cI, 400, .inl go)), (reA, .inl (cL, 2800, .inr (.inl re)))] sz) [(h, .inr (10, [tx_order, tx_length, tx_size, tx_unsure, tx_stranded, tx_dead, tx_stock, tx_changes, tx_lines, tx_loaded, tx_version, tx_loadedFile, tx_rows, tx_slots, .int (nI nn), .ref reA, tx_deleters, .ref goA, tx_waits])), (goA, .inl (cI, 400, .inl go)), (reA, .inl (cL, 2800, .inr (.inl re)))] t) (va_A [(h, .inr (10, [tx_order, tx_length, tx_size, tx_unsure, tx_stranded, tx_dead, tx_stock, tx_changes, tx_lines, tx_loaded, tx_version, tx_loadedFile, tx_rows, tx_slots, .int (nI nn), .ref reA, tx_deleters, .ref goA, tx_waits])), (goA, .inl (cI, 400, .inl go)), (reA, .inl (cL, 2800, .inr (.inl re)))] sz)) 0 0 (va_A [(h, .inr (10, [tx_order, tx_length, tx_size, tx_unsure, tx_stranded, tx_dead, tx_stock, tx_changes, tx_lines, tx_loaded, tx_version, tx_loadedFile, tx_rows, tx_slots, .int (nI nn), .ref reA, tx_deleters, .ref goA, tx_waits])), (goA, .inl (cI, 400, .inl go)), (reA, .inl (cL, 2800, .inr (.inl re)))] sz) := by
  refine Met.ofW (cc := prog_11_method_16_code) (maxL := 4) (ret := (Option.some Jvm.ClassFile.FieldType.int)) (by decide) rfl ?_
  intro p e s m args below meth c s₁ B hml hv
  obtain ⟨rfl, hsz, hP, hK, hD0⟩ := hv
  have hx := B.exec
  have hb := B.bytes
  have hr := B.returns
  have hts0 := atoms_spec (ws := ws_Tx_countWaits) B.pre
  have hts : ∀ w ∈ xg_1, w.before _ s = true := fun w h => hts0 w (List.mem_cons_of_mem _ h)
  have hown : s.vm.findClass "PatchStore$Text" = some m.cls := findClass_of_methodNamed B.named
  have hlocks := B.notSynchronized
  subst hsz
  have hD := hD0.self (sz := s.heap.size)
  generalize hAe : va_A [(h, .inr (10, [tx_order, tx_length, tx_size, tx_unsure, tx_stranded, tx_dead, tx_stock, tx_changes, tx_lines, tx_loaded, tx_version, tx_loadedFile, tx_rows, tx_slots, .int (nI nn), .ref reA, tx_deleters, .ref goA, tx_waits])), (goA, .inl (cI, 400, .inl go)), (reA, .inl (cL, 2800, .inr (.inl re)))] s.heap.size = A at hD ⊢
  have hA : ∀ q : Nat, s.heap.size ≤ q → A q := fun q h => by rw [← hAe]; exact Or.inr h
  have hS : va_S A s.heap s.heap [] := va_S.rf
  have hl := lv_entry ([.ref h, .int (nI s9)]) (n := 4) (Nat.le_of_ble_eq_true rfl)
  rw [lg_entry_eq]
  generalize (lg_sl ([.ref h, .int (nI s9)]) ++ List.replicate (4 - (lg_sl ([.ref h, .int (nI s9)])).length) Slot.unset).toArray = ls at hl ⊢
  have hl : lv_has ls 4 [(0, .ref h), (1, .int (nI s9))] := hl
  generalize hQe : MQ _ _ _ _ _ _ _ = Q
  refine lv_iconst (v := 0) hx hb d_Tx_countWaits_0 (by decide) ?_
  refine lv_istore_n (lv' := [(2, .int 0), (0, .ref h), (1, .int (nI s9))]) hx hb d_Tx_countWaits_1 rfl hl (by decide) rfl (fun ls hl => ?_)
  refine lv_iconst (v := 0) hx hb d_Tx_countWaits_2 (by decide) ?_
  refine lv_istore_n (lv' := [(3, .int 0), (2, .int 0), (0, .ref h), (1, .int (nI s9))]) hx hb d_Tx_countWaits_3 rfl hl (by decide) rfl (fun ls hl => ?_)
  have loop_4 : ∀ (n9 : Nat) (i : Nat) (H : Heap) (locs : List Loc) (ls : Array Slot), nn - i < n9 → (i ≤ nn) → va_P (dC, dI) classes [(h, .inr (10, [tx_order, tx_length, tx_size, tx_unsure, tx_stranded, tx_dead, tx_stock, tx_changes, tx_lines, tx_loaded, tx_version, tx_loadedFile, tx_rows, tx_slots, .int (nI nn), .ref reA, tx_deleters, .ref goA, tx_waits])), (goA, .inl (cI, 400, .inl go)), (reA, .inl (cL, 2800, .inr (.inl re)))] H → va_D A [(h, .inr (10, [tx_order, tx_length, tx_size, tx_unsure, tx_stranded, tx_dead, tx_stock, tx_changes, tx_lines, tx_loaded, tx_version, tx_loadedFile, tx_rows, tx_slots, .int (nI nn), .ref reA, tx_deleters, .ref goA, tx_waits])), (goA, .inl (cI, 400, .inl go)), (reA, .inl (cL, 2800, .inr (.inl re)))] → va_S A s.heap H locs → lv_has ls 4 [(0, .ref h), (1, .int (nI s9)), (2, .int (nI (cnt (wtB re go s9) i))), (3, .int (nI i))] → W p l e (headSpec ws_Tx_countWaits ({ frames := 1, cells := 0, slots := 0, locals := 60 })).room s m ([.ref h, .int (nI s9)] : List Value).toArray below meth c H locs 0 0 Q (F0 m 4 ls []) := by
    intro n9
    induction n9 with
    | zero => intro i H locs ls hm; exact absurd hm (Nat.not_lt_zero _)
    | succ n9 ih_4 =>
      intro i H locs ls hm hi hP hD hS hl
      have hc1 := cnt_le (wtB re go s9) i
      refine lv_iload_n hx hb d_Tx_countWaits_4 rfl (lv_at hl 3 rfl) ?_
      refine lv_aload_n hx hb d_Tx_countWaits_5 rfl (lv_at hl 0 rfl) ?_
      refine va_get (D := (dC, dI)) (ci := 10) (v := .int (nI nn)) (C := R_Tx) (T := F_Tx) (N := 19) hx hb hts i_Tx hown hK hP 0 rfl rfl 14 (by decide) (hts _ gw_396) (fun _ h9 => h9) rfl d_Tx_countWaits_6 ?_
      refine lv_icmp_ge (tgt := 48) hx hb d_Tx_countWaits_9 (by decide) (fun c_9 => ?_) (fun c_9 => ?_)
      · have n_9 : nn ≤ i := (nI_leI (a := nn) (b := i) (by omega) (by omega)).mp c_9
        refine lv_iload_n hx hb d_Tx_countWaits_48 rfl (lv_at hl 2 rfl) ?_
        rw [← hQe]
        exact W.iret (v := nI (cnt (wtB re go s9) i)) hx hb hr (fun t ht hW => ⟨⟨_, (), rfl, by rw [show i = nn by omega]; rfl, by rw [ht]; exact hP, va_K.moved hW.alike hK, hD⟩, hS.F ht⟩) hS.2.2 d_Tx_countWaits_49
      · have n_9 : i < nn := Nat.lt_of_not_le (fun z => c_9 ((nI_leI (a := nn) (b := i) (by omega) (by omega)).mpr z))
        refine lv_aload_n hx hb d_Tx_countWaits_12 rfl (lv_at hl 0 rfl) ?_
        refine va_get (D := (dC, dI)) (ci := 10) (v := .ref goA) (C := R_Tx) (T := F_Tx) (N := 19) hx hb hts i_Tx hown hK hP 0 rfl rfl 17 (by decide) (hts _ gw_399) (fun _ h9 => h9) rfl d_Tx_countWaits_13 ?_
        refine lv_iload_n hx hb d_Tx_countWaits_16 rfl (lv_at hl 3 rfl) ?_
        refine va_iald hx hb hK hP 1 0 rfl rfl (vp_in_nI (by omega) (by omega)) d_Tx_countWaits_17 ?_
        rw [show (nI i).toNatClampNeg = i from nI_clamp (by omega)]
        refine lv_if_ne (tgt := 42) hx hb d_Tx_countWaits_18 (by decide) (fun c_18 => ?_) (fun c_18 => ?_)
        · have hwB : ¬ (wtB re go s9) i = true := by unfold wtB; rw [show (go i == 0) = false from beq_eq_false_iff_ne.mpr c_18]; simp
          rw [show nI (cnt (wtB re go s9) i) = nI (cnt (wtB re go s9) (i + 1)) from congrArg nI (cnt_no hwB)] at hl
          refine lv_iinc (v := nI (i + 1)) (lv' := [(3, .int (nI (i + 1))), (0, .ref h), (1, .int (nI s9)), (2, .int (nI (cnt (wtB re go s9) (i + 1))))]) hx hb d_Tx_countWaits_42 hl (k := 3) rfl (by exact nI_add _ _) (by decide) rfl (fun ls hl => ?_)
          refine lv_goto (tgt := 4) hx hb d_Tx_countWaits_45 (by decide) ?_
          exact ih_4 (i + 1) _ _ _ (by omega) (by omega) hP hD hS (lv_sub hl [1, 2, 3, 0] rfl)
        · refine lv_aload_n hx hb d_Tx_countWaits_21 rfl (lv_at hl 0 rfl) ?_
          refine lv_iload_n hx hb d_Tx_countWaits_22 rfl (lv_at hl 3 rfl) ?_
          refine lv_iload_n hx hb d_Tx_countWaits_23 rfl (lv_at hl 1 rfl) ?_
          have hPc := hP.sub (ws' := [(h, .inr (10, [tx_order, tx_length, tx_size, tx_unsure, tx_stranded, tx_dead, tx_stock, tx_changes, tx_lines, tx_loaded, tx_version, tx_loadedFile, tx_rows, tx_slots, .int (nI nn), .ref reA, tx_deleters, .ref goA, tx_waits])), (reA, .inl (cL, 2800, .inr (.inl re)))]) [0, 2] rfl
          have hDc := hD.sub (ws' := [(h, .inr (10, [tx_order, tx_length, tx_size, tx_unsure, tx_stranded, tx_dead, tx_stock, tx_changes, tx_lines, tx_loaded, tx_version, tx_loadedFile, tx_rows, tx_slots, .int (nI nn), .ref reA, tx_deleters, .ref goA, tx_waits])), (reA, .inl (cL, 2800, .inr (.inl re)))]) [0, 2] (by decide) rfl
          have hFc := va_free (wc := [(h, .inr (10, [tx_order, tx_length, tx_size, tx_unsure, tx_stranded, tx_dead, tx_stock, tx_changes, tx_lines, tx_loaded, tx_version, tx_loadedFile, tx_rows, tx_slots, .int (nI nn), .ref reA, tx_deleters, .ref goA, tx_waits])), (reA, .inl (cL, 2800, .inr (.inl re)))]) hD hS hA [0, 2] rfl
          refine va_calli (va_runV (As := [.int (nI i), .int (nI s9)]) (rest := []) ⟨hx, hb, hml, hown, hts⟩ (m_Tx_reaches l dC dI cI cB cL cZ cR h reA (tx_order) (tx_length) (tx_size) (tx_unsure) (tx_stranded) (tx_dead) (tx_stock) (tx_changes) (tx_lines) (tx_loaded) (tx_version) (tx_loadedFile) (tx_rows) (tx_slots) (.int (nI nn)) (tx_deleters) (.ref goA) (tx_waits) re i s9 H.size (by omega) (by omega)) (cwV 2 hts (xg_V gw_1102 gw_1104 (xg_p 51 (q := (⟨"PatchStore$Text", "reaches", "(II)Z"⟩, 19)) (by decide +kernel)) gw_9 gw_1105) rfl rfl rfl (by decide +kernel) ⟨Nat.le_of_ble_eq_true rfl, Nat.le_of_ble_eq_true rfl⟩) ⟨xw_blind, va_recv hK hPc (ci := 10) (q0 := 0) rfl rfl, fun U hU hW => ⟨rfl, by rw [hU], by rw [hU]; exact hPc, va_K.moved hW.alike hK, hDc.weaken (fun _ _ _ _ => trivial)⟩⟩ rfl rfl hl.1 rfl (lv_room (Nat.le_of_ble_eq_true rfl)) d_Tx_countWaits_24 ⟨Nat.le_of_ble_eq_true rfl, Nat.le_of_ble_eq_true rfl⟩) hS (fun q _ h => hFc q h) hFc (fun r9 u t H1 locs ht hvm hw hB hz1 hk1 hS => ?_)
          obtain ⟨hP1, hK1, hD1⟩ := hB
          rw [ht] at hP1
          obtain ⟨hP, hD⟩ := va_join (wr := [(goA, .inl (cI, 400, .inl go))]) (w1 := [(h, .inr (10, [tx_order, tx_length, tx_size, tx_unsure, tx_stranded, tx_dead, tx_stock, tx_changes, tx_lines, tx_loaded, tx_version, tx_loadedFile, tx_rows, tx_slots, .int (nI nn), .ref reA, tx_deleters, .ref goA, tx_waits])), (reA, .inl (cL, 2800, .inr (.inl re)))]) hP hD [0, 2] [1] rfl rfl (by decide) (by decide) hk1 hFc hP1 hD1
          generalize H1 = H at hP hS ⊢
          have hP : va_P (dC, dI) classes [(goA, .inl (cI, 400, .inl go)), (h, .inr (10, [tx_order, tx_length, tx_size, tx_unsure, tx_stranded, tx_dead, tx_stock, tx_changes, tx_lines, tx_loaded, tx_version, tx_loadedFile, tx_rows, tx_slots, .int (nI nn), .ref reA, tx_deleters, .ref goA, tx_waits])), (reA, .inl (cL, 2800, .inr (.inl re)))] H := hP
          have hD : va_D A [(goA, .inl (cI, 400, .inl go)), (h, .inr (10, [tx_order, tx_length, tx_size, tx_unsure, tx_stranded, tx_dead, tx_stock, tx_changes, tx_lines, tx_loaded, tx_version, tx_loadedFile, tx_rows, tx_slots, .int (nI nn), .ref reA, tx_deleters, .ref goA, tx_waits])), (reA, .inl (cL, 2800, .inr (.inl re)))] := hD
          rcases hw with ⟨rfl, ha1⟩ | ⟨rfl, ha1⟩
          · have hP : va_P (dC, dI) classes [(goA, .inl (cI, 400, .inl go)), (h, .inr (10, [tx_order, tx_length, tx_size, tx_unsure, tx_stranded, tx_dead, tx_stock, tx_changes, tx_lines, tx_loaded, tx_version, tx_loadedFile, tx_rows, tx_slots, .int (nI nn), .ref reA, tx_deleters, .ref goA, tx_waits])), (reA, .inl (cL, 2800, .inr (.inl re)))] H := hP
            have hD : va_D A [(goA, .inl (cI, 400, .inl go)), (h, .inr (10, [tx_order, tx_length, tx_size, tx_unsure, tx_stranded, tx_dead, tx_stock, tx_changes, tx_lines, tx_loaded, tx_version, tx_loadedFile, tx_rows, tx_slots, .int (nI nn), .ref reA, tx_deleters, .ref goA, tx_waits])), (reA, .inl (cL, 2800, .inr (.inl re)))] := hD
            refine lv_if_eq (tgt := 42) hx hb d_Tx_countWaits_27 (by decide) (fun c_27 => absurd c_27 (by decide)) (fun _ => ?_)
            refine lv_aload_n hx hb d_Tx_countWaits_30 rfl (lv_at hl 0 rfl) ?_
            refine lv_iload_n hx hb d_Tx_countWaits_31 rfl (lv_at hl 1 rfl) ?_
            refine lv_iload_n hx hb d_Tx_countWaits_32 rfl (lv_at hl 3 rfl) ?_
            have hPc := hP.sub (ws' := [(h, .inr (10, [tx_order, tx_length, tx_size, tx_unsure, tx_stranded, tx_dead, tx_stock, tx_changes, tx_lines, tx_loaded, tx_version, tx_loadedFile, tx_rows, tx_slots, .int (nI nn), .ref reA, tx_deleters, .ref goA, tx_waits])), (reA, .inl (cL, 2800, .inr (.inl re)))]) [1, 2] rfl
            have hDc := hD.sub (ws' := [(h, .inr (10, [tx_order, tx_length, tx_size, tx_unsure, tx_stranded, tx_dead, tx_stock, tx_changes, tx_lines, tx_loaded, tx_version, tx_loadedFile, tx_rows, tx_slots, .int (nI nn), .ref reA, tx_deleters, .ref goA, tx_waits])), (reA, .inl (cL, 2800, .inr (.inl re)))]) [1, 2] (by decide) rfl
            have hFc := va_free (wc := [(h, .inr (10, [tx_order, tx_length, tx_size, tx_unsure, tx_stranded, tx_dead, tx_stock, tx_changes, tx_lines, tx_loaded, tx_version, tx_loadedFile, tx_rows, tx_slots, .int (nI nn), .ref reA, tx_deleters, .ref goA, tx_waits])), (reA, .inl (cL, 2800, .inr (.inl re)))]) hD hS hA [1, 2] rfl
            refine va_calli (va_runV (As := [.int (nI s9), .int (nI i)]) (rest := []) ⟨hx, hb, hml, hown, hts⟩ (m_Tx_reaches l dC dI cI cB cL cZ cR h reA (tx_order) (tx_length) (tx_size) (tx_unsure) (tx_stranded) (tx_dead) (tx_stock) (tx_changes) (tx_lines) (tx_loaded) (tx_version) (tx_loadedFile) (tx_rows) (tx_slots) (.int (nI nn)) (tx_deleters) (.ref goA) (tx_waits) re s9 i H.size (by omega) (by omega)) (cwV 2 hts (xg_V gw_1102 gw_1104 (xg_p 51 (q := (⟨"PatchStore$Text", "reaches", "(II)Z"⟩, 19)) (by decide +kernel)) gw_9 gw_1105) rfl rfl rfl (by decide +kernel) ⟨Nat.le_of_ble_eq_true rfl, Nat.le_of_ble_eq_true rfl⟩) ⟨xw_blind, va_recv hK hPc (ci := 10) (q0 := 0) rfl rfl, fun U hU hW => ⟨rfl, by rw [hU], by rw [hU]; exact hPc, va_K.moved hW.alike hK, hDc.weaken (fun _ _ _ _ => trivial)⟩⟩ rfl rfl hl.1 rfl (lv_room (Nat.le_of_ble_eq_true rfl)) d_Tx_countWaits_33 ⟨Nat.le_of_ble_eq_true rfl, Nat.le_of_ble_eq_true rfl⟩) hS (fun q _ h => hFc q h) hFc (fun r9 u t H1 locs ht hvm hw hB hz1 hk1 hS => ?_)
            obtain ⟨hP1, hK1, hD1⟩ := hB
            rw [ht] at hP1
            obtain ⟨hP, hD⟩ := va_join (wr := [(goA, .inl (cI, 400, .inl go))]) (w1 := [(h, .inr (10, [tx_order, tx_length, tx_size, tx_unsure, tx_stranded, tx_dead, tx_stock, tx_changes, tx_lines, tx_loaded, tx_version, tx_loadedFile, tx_rows, tx_slots, .int (nI nn), .ref reA, tx_deleters, .ref goA, tx_waits])), (reA, .inl (cL, 2800, .inr (.inl re)))]) hP hD [1, 2] [0] rfl rfl (by decide) (by decide) hk1 hFc hP1 hD1
            generalize H1 = H at hP hS ⊢
            have hP : va_P (dC, dI) classes [(goA, .inl (cI, 400, .inl go)), (h, .inr (10, [tx_order, tx_length, tx_size, tx_unsure, tx_stranded, tx_dead, tx_stock, tx_changes, tx_lines, tx_loaded, tx_version, tx_loadedFile, tx_rows, tx_slots, .int (nI nn), .ref reA, tx_deleters, .ref goA, tx_waits])), (reA, .inl (cL, 2800, .inr (.inl re)))] H := hP
            have hD : va_D A [(goA, .inl (cI, 400, .inl go)), (h, .inr (10, [tx_order, tx_length, tx_size, tx_unsure, tx_stranded, tx_dead, tx_stock, tx_changes, tx_lines, tx_loaded, tx_version, tx_loadedFile, tx_rows, tx_slots, .int (nI nn), .ref reA, tx_deleters, .ref goA, tx_waits])), (reA, .inl (cL, 2800, .inr (.inl re)))] := hD
            rcases hw with ⟨rfl, ha2⟩ | ⟨rfl, ha2⟩
            · have hP : va_P (dC, dI) classes [(goA, .inl (cI, 400, .inl go)), (h, .inr (10, [tx_order, tx_length, tx_size, tx_unsure, tx_stranded, tx_dead, tx_stock, tx_changes, tx_lines, tx_loaded, tx_version, tx_loadedFile, tx_rows, tx_slots, .int (nI nn), .ref reA, tx_deleters, .ref goA, tx_waits])), (reA, .inl (cL, 2800, .inr (.inl re)))] H := hP
              have hD : va_D A [(goA, .inl (cI, 400, .inl go)), (h, .inr (10, [tx_order, tx_length, tx_size, tx_unsure, tx_stranded, tx_dead, tx_stock, tx_changes, tx_lines, tx_loaded, tx_version, tx_loadedFile, tx_rows, tx_slots, .int (nI nn), .ref reA, tx_deleters, .ref goA, tx_waits])), (reA, .inl (cL, 2800, .inr (.inl re)))] := hD
              refine lv_if_ne (tgt := 42) hx hb d_Tx_countWaits_36 (by decide) (fun _ => ?_) (fun c_36 => absurd c_36 (by decide))
              have hwB : ¬ (wtB re go s9) i = true := by unfold wtB befB; rw [ha2]; simp
              rw [show nI (cnt (wtB re go s9) i) = nI (cnt (wtB re go s9) (i + 1)) from congrArg nI (cnt_no hwB)] at hl
              refine lv_iinc (v := nI (i + 1)) (lv' := [(3, .int (nI (i + 1))), (0, .ref h), (1, .int (nI s9)), (2, .int (nI (cnt (wtB re go s9) (i + 1))))]) hx hb d_Tx_countWaits_42 hl (k := 3) rfl (by exact nI_add _ _) (by decide) rfl (fun ls hl => ?_)
              refine lv_goto (tgt := 4) hx hb d_Tx_countWaits_45 (by decide) ?_
              exact ih_4 (i + 1) _ _ _ (by omega) (by omega) (hP.sub [1, 0, 2] rfl) (hD.sub [1, 0, 2] (by decide) rfl) hS (lv_sub hl [1, 2, 3, 0] rfl)
            · have hP : va_P (dC, dI) classes [(goA, .inl (cI, 400, .inl go)), (h, .inr (10, [tx_order, tx_length, tx_size, tx_unsure, tx_stranded, tx_dead, tx_stock, tx_changes, tx_lines, tx_loaded, tx_version, tx_loadedFile, tx_rows, tx_slots, .int (nI nn), .ref reA, tx_deleters, .ref goA, tx_waits])), (reA, .inl (cL, 2800, .inr (.inl re)))] H := hP
              have hD : va_D A [(goA, .inl (cI, 400, .inl go)), (h, .inr (10, [tx_order, tx_length, tx_size, tx_unsure, tx_stranded, tx_dead, tx_stock, tx_changes, tx_lines, tx_loaded, tx_version, tx_loadedFile, tx_rows, tx_slots, .int (nI nn), .ref reA, tx_deleters, .ref goA, tx_waits])), (reA, .inl (cL, 2800, .inr (.inl re)))] := hD
              refine lv_if_ne (tgt := 42) hx hb d_Tx_countWaits_36 (by decide) (fun c_36 => absurd c_36 (by decide)) (fun _ => ?_)
              refine lv_iinc (v := nI ((cnt (wtB re go s9) i) + 1)) (lv' := [(2, .int (nI ((cnt (wtB re go s9) i) + 1))), (0, .ref h), (1, .int (nI s9)), (3, .int (nI i))]) hx hb d_Tx_countWaits_39 hl (k := 2) rfl (by exact nI_add _ _) (by decide) rfl (fun ls hl => ?_)
              have hwB : (wtB re go s9) i = true := by unfold wtB befB; rw [c_18, ha1, ha2]; rfl
              rw [show nI ((cnt (wtB re go s9) i) + 1) = nI (cnt (wtB re go s9) (i + 1)) from congrArg nI (cnt_yes hwB)] at hl
              refine lv_iinc (v := nI (i + 1)) (lv' := [(3, .int (nI (i + 1))), (2, .int (nI (cnt (wtB re go s9) (i + 1)))), (0, .ref h), (1, .int (nI s9))]) hx hb d_Tx_countWaits_42 hl (k := 3) rfl (by exact nI_add _ _) (by decide) rfl (fun ls hl => ?_)
              refine lv_goto (tgt := 4) hx hb d_Tx_countWaits_45 (by decide) ?_
              exact ih_4 (i + 1) _ _ _ (by omega) (by omega) (hP.sub [1, 0, 2] rfl) (hD.sub [1, 0, 2] (by decide) rfl) hS (lv_sub hl [2, 3, 1, 0] rfl)
          · have hP : va_P (dC, dI) classes [(goA, .inl (cI, 400, .inl go)), (h, .inr (10, [tx_order, tx_length, tx_size, tx_unsure, tx_stranded, tx_dead, tx_stock, tx_changes, tx_lines, tx_loaded, tx_version, tx_loadedFile, tx_rows, tx_slots, .int (nI nn), .ref reA, tx_deleters, .ref goA, tx_waits])), (reA, .inl (cL, 2800, .inr (.inl re)))] H := hP
            have hD : va_D A [(goA, .inl (cI, 400, .inl go)), (h, .inr (10, [tx_order, tx_length, tx_size, tx_unsure, tx_stranded, tx_dead, tx_stock, tx_changes, tx_lines, tx_loaded, tx_version, tx_loadedFile, tx_rows, tx_slots, .int (nI nn), .ref reA, tx_deleters, .ref goA, tx_waits])), (reA, .inl (cL, 2800, .inr (.inl re)))] := hD
            refine lv_if_eq (tgt := 42) hx hb d_Tx_countWaits_27 (by decide) (fun _ => ?_) (fun c_27 => absurd (by decide) c_27)
            have hwB : ¬ (wtB re go s9) i = true := by unfold wtB befB; rw [ha1]; simp
            rw [show nI (cnt (wtB re go s9) i) = nI (cnt (wtB re go s9) (i + 1)) from congrArg nI (cnt_no hwB)] at hl
            refine lv_iinc (v := nI (i + 1)) (lv' := [(3, .int (nI (i + 1))), (0, .ref h), (1, .int (nI s9)), (2, .int (nI (cnt (wtB re go s9) (i + 1))))]) hx hb d_Tx_countWaits_42 hl (k := 3) rfl (by exact nI_add _ _) (by decide) rfl (fun ls hl => ?_)
            refine lv_goto (tgt := 4) hx hb d_Tx_countWaits_45 (by decide) ?_
            exact ih_4 (i + 1) _ _ _ (by omega) (by omega) (hP.sub [1, 0, 2] rfl) (hD.sub [1, 0, 2] (by decide) rfl) hS (lv_sub hl [1, 2, 3, 0] rfl)
  exact loop_4 _ 0 _ _ _ (Nat.lt_succ_self _) (Nat.zero_le _) hP hD hS (lv_sub hl [2, 3, 1, 0] rfl)
set_option maxHeartbeats 4000000 in
set_option maxRecDepth 100000 in
/-- the least free slot -/
theorem m_Tx_leastFree (l : Launch) (dC : Nat → ClassId) (dI : Nat → Nat → Nat) (cI cB cL cZ cR : ClassId) (h goA waA : Nat) (tx_order tx_length tx_size tx_stranded tx_dead tx_stock tx_changes tx_lines tx_loaded tx_version tx_loadedFile tx_rows tx_slots tx_reach tx_deleters : Value) (go wt : Nat → Int32) (re : Nat → Int64) (nn un : Nat) (sz : Nat) (hnn : nn ≤ 400) (hwR : wtR re go wt nn) (hun : un ≤ 1000) : Met l y_Tx_leastFree ws_Tx_leastFree ({ frames := 0, cells := 0, slots := 0, locals := 0 }) (xw_Pc dC dI [(cI, .int), (cB, .byte), (cL, .long), (cZ, .boolean), (cR, .object "PatchStore$Repository")] [.ref h] [(h, .inr (10, [tx_order, tx_length, tx_size, .int (nI un), tx_stranded, tx_dead, tx_stock, tx_changes, tx_lines, tx_loaded, tx_version, tx_loadedFile, tx_rows, tx_slots, .int (nI nn), tx_reach, tx_deleters, .ref goA, .ref waA])), (goA, .inl (cI, 400, .inl go)), (waA, .inl (cI, 400, .inl wt))] sz) (va_Qi (fun (r : Int32) (u : Nat) => r = ofO (lfO (frB re go nn) nn) ∧ u = (un + (if 2 ≤ cnt (frB re go nn) nn then 1 else 0))) (fun u t => xw_B dC dI [(cI, .int), (cB, .byte), (cL, .long), (cZ, .boolean), (cR, .object "PatchStore$Repository")] (va_A [(h, .inr (10, [tx_order, tx_length, tx_size, .int (nI un), tx_stranded, tx_dead, tx_stock, tx_changes, tx_lines, tx_loaded, tx_version, tx_loadedFile, tx_rows, tx_slots, .int (nI nn), tx_reach, tx_deleters, .ref goA, .ref waA])), (goA, .inl (cI, 400, .inl go)), (waA, .inl (cI, 400, .inl wt))] sz) [(h, .inr (10, [tx_order, tx_length, tx_size, .int (nI u), tx_stranded, tx_dead, tx_stock, tx_changes, tx_lines, tx_loaded, tx_version, tx_loadedFile, tx_rows, tx_slots, .int (nI nn), tx_reach, tx_deleters, .ref goA, .ref waA])), (goA, .inl (cI, 400, .inl go)), (waA, .inl (cI, 400, .inl wt))] t) (va_A [(h, .inr (10, [tx_order, tx_length, tx_size, .int (nI un), tx_stranded, tx_dead, tx_stock, tx_changes, tx_lines, tx_loaded, tx_version, tx_loadedFile, tx_rows, tx_slots, .int (nI nn), tx_reach, tx_deleters, .ref goA, .ref waA])), (goA, .inl (cI, 400, .inl go)), (waA, .inl (cI, 400, .inl wt))] sz)) 0 0 (va_A [(h, .inr (10, [tx_order, tx_length, tx_size, .int (nI un), tx_stranded, tx_dead, tx_stock, tx_changes, tx_lines, tx_loaded, tx_version, tx_loadedFile, tx_rows, tx_slots, .int (nI nn), tx_reach, tx_deleters, .ref goA, .ref waA])), (goA, .inl (cI, 400, .inl go)), (waA, .inl (cI, 400, .inl wt))] sz) := by
  refine Met.ofW (cc := prog_11_method_17_code) (maxL := 3) (ret := (Option.some Jvm.ClassFile.FieldType.int)) (by decide) rfl ?_
  intro p e s m args below meth c s₁ B hml hv
  obtain ⟨rfl, hsz, hP, hK, hD0⟩ := hv
  have hx := B.exec
  have hb := B.bytes
  have hr := B.returns
  have hts0 := atoms_spec (ws := ws_Tx_leastFree) B.pre
  have hts : ∀ w ∈ xg_1, w.before _ s = true := fun w h => hts0 w (List.mem_cons_of_mem _ h)
  have hown : s.vm.findClass "PatchStore$Text" = some m.cls := findClass_of_methodNamed B.named
  have hlocks := B.notSynchronized
  subst hsz
  have hD := hD0.self (sz := s.heap.size)
  generalize hAe : va_A [(h, .inr (10, [tx_order, tx_length, tx_size, .int (nI un), tx_stranded, tx_dead, tx_stock, tx_changes, tx_lines, tx_loaded, tx_version, tx_loadedFile, tx_rows, tx_slots, .int (nI nn), tx_reach, tx_deleters, .ref goA, .ref waA])), (goA, .inl (cI, 400, .inl go)), (waA, .inl (cI, 400, .inl wt))] s.heap.size = A at hD ⊢
  have hA : ∀ q : Nat, s.heap.size ≤ q → A q := fun q h => by rw [← hAe]; exact Or.inr h
  have hS : va_S A s.heap s.heap [] := va_S.rf
  have hl := lv_entry ([.ref h]) (n := 3) (Nat.le_of_ble_eq_true rfl)
  rw [lg_entry_eq]
  generalize (lg_sl ([.ref h]) ++ List.replicate (3 - (lg_sl ([.ref h])).length) Slot.unset).toArray = ls at hl ⊢
  have hl : lv_has ls 3 [(0, .ref h)] := hl
  generalize hQe : MQ _ _ _ _ _ _ _ = Q
  refine lv_iconst (v := (-1)) hx hb d_Tx_leastFree_0 (by decide) ?_
  refine lv_istore_n (lv' := [(1, .int (-1)), (0, .ref h)]) hx hb d_Tx_leastFree_1 rfl hl (by decide) rfl (fun ls hl => ?_)
  refine lv_iconst (v := 0) hx hb d_Tx_leastFree_2 (by decide) ?_
  refine lv_istore_n (lv' := [(2, .int 0), (1, .int (-1)), (0, .ref h)]) hx hb d_Tx_leastFree_3 rfl hl (by decide) rfl (fun ls hl => ?_)
  have loop_4 : ∀ (n9 : Nat) (i : Nat) (lq : Option Nat) (H : Heap) (locs : List Loc) (ls : Array Slot), nn - i < n9 → (i ≤ nn) → (lq = lfO (frB re go nn) i) → (cnt (frB re go nn) i = nO lq) → va_P (dC, dI) classes [(h, .inr (10, [tx_order, tx_length, tx_size, .int (nI un), tx_stranded, tx_dead, tx_stock, tx_changes, tx_lines, tx_loaded, tx_version, tx_loadedFile, tx_rows, tx_slots, .int (nI nn), tx_reach, tx_deleters, .ref goA, .ref waA])), (goA, .inl (cI, 400, .inl go)), (waA, .inl (cI, 400, .inl wt))] H → va_D A [(h, .inr (10, [tx_order, tx_length, tx_size, .int (nI un), tx_stranded, tx_dead, tx_stock, tx_changes, tx_lines, tx_loaded, tx_version, tx_loadedFile, tx_rows, tx_slots, .int (nI nn), tx_reach, tx_deleters, .ref goA, .ref waA])), (goA, .inl (cI, 400, .inl go)), (waA, .inl (cI, 400, .inl wt))] → va_S A s.heap H locs → lv_has ls 3 [(0, .ref h), (1, .int (ofO lq)), (2, .int (nI i))] → W p l e (headSpec ws_Tx_leastFree ({ frames := 0, cells := 0, slots := 0, locals := 0 })).room s m ([.ref h] : List Value).toArray below meth c H locs 0 0 Q (F0 m 4 ls []) := by
    intro n9
    induction n9 with
    | zero => intro i lq H locs ls hm; exact absurd hm (Nat.not_lt_zero _)
    | succ n9 ih_4 =>
      intro i lq H locs ls hm hi hlq hcn hP hD hS hl
      refine lv_iload_n hx hb d_Tx_leastFree_4 rfl (lv_at hl 2 rfl) ?_
      refine lv_aload_n hx hb d_Tx_leastFree_5 rfl (lv_at hl 0 rfl) ?_
      refine va_get (D := (dC, dI)) (ci := 10) (v := .int (nI nn)) (C := R_Tx) (T := F_Tx) (N := 19) hx hb hts i_Tx hown hK hP 0 rfl rfl 14 (by decide) (hts _ gw_396) (fun _ h9 => h9) rfl d_Tx_leastFree_6 ?_
      refine lv_icmp_ge (tgt := 55) hx hb d_Tx_leastFree_9 (by decide) (fun c_9 => ?_) (fun c_9 => ?_)
      · have n_9 : nn ≤ i := (nI_leI (a := nn) (b := i) (by omega) (by omega)).mp c_9
        refine lv_iload_n hx hb d_Tx_leastFree_55 rfl (lv_at hl 1 rfl) ?_
        have hiT : i = nn := by omega
        rw [hiT] at hlq hcn
        rw [← hQe]
        exact W.iret (v := ofO lq) hx hb hr (fun t ht hW => ⟨⟨_, un, rfl, ⟨by rw [hlq], by rw [if_neg (by rw [hcn]; have := nO_le lq; omega)]; rfl⟩, by rw [ht]; exact hP, va_K.moved hW.alike hK, hD⟩, hS.F ht⟩) hS.2.2 d_Tx_leastFree_56
      · have n_9 : i < nn := Nat.lt_of_not_le (fun z => c_9 ((nI_leI (a := nn) (b := i) (by omega) (by omega)).mpr z))
        refine lv_aload_n hx hb d_Tx_leastFree_12 rfl (lv_at hl 0 rfl) ?_
        refine va_get (D := (dC, dI)) (ci := 10) (v := .ref goA) (C := R_Tx) (T := F_Tx) (N := 19) hx hb hts i_Tx hown hK hP 0 rfl rfl 17 (by decide) (hts _ gw_399) (fun _ h9 => h9) rfl d_Tx_leastFree_13 ?_
        refine lv_iload_n hx hb d_Tx_leastFree_16 rfl (lv_at hl 2 rfl) ?_
        refine va_iald hx hb hK hP 1 0 rfl rfl (vp_in_nI (by omega) (by omega)) d_Tx_leastFree_17 ?_
        rw [show (nI i).toNatClampNeg = i from nI_clamp (by omega)]
        refine lv_if_ne (tgt := 49) hx hb d_Tx_leastFree_18 (by decide) (fun c_18 => ?_) (fun c_18 => ?_)
        · have hfr : ¬ (frB re go nn) i = true := fun z => c_18 ((hwR.fr hnn n_9).mp z).1
          refine lv_iinc (v := nI (i + 1)) (lv' := [(2, .int (nI (i + 1))), (0, .ref h), (1, .int (ofO lq))]) hx hb d_Tx_leastFree_49 hl (k := 2) rfl (by exact nI_add _ _) (by decide) rfl (fun ls hl => ?_)
          refine lv_goto (tgt := 4) hx hb d_Tx_leastFree_52 (by decide) ?_
          exact ih_4 (i + 1) lq _ _ _ (by omega) (by omega) (by cases lq with | none => exact (lfO_no hlq.symm hfr).symm | some a => exact (lfO_some hlq.symm).symm) (by rw [← cnt_no hfr]; exact hcn) hP hD hS (lv_sub hl [1, 2, 0] rfl)
        · refine lv_aload_n hx hb d_Tx_leastFree_21 rfl (lv_at hl 0 rfl) ?_
          refine va_get (D := (dC, dI)) (ci := 10) (v := .ref waA) (C := R_Tx) (T := F_Tx) (N := 19) hx hb hts i_Tx hown hK hP 0 rfl rfl 18 (by decide) (hts _ gw_400) (fun _ h9 => h9) rfl d_Tx_leastFree_22 ?_
          refine lv_iload_n hx hb d_Tx_leastFree_25 rfl (lv_at hl 2 rfl) ?_
          refine va_iald hx hb hK hP 2 0 rfl rfl (vp_in_nI (by omega) (by omega)) d_Tx_leastFree_26 ?_
          rw [show (nI i).toNatClampNeg = i from nI_clamp (by omega)]
          refine lv_if_ne (tgt := 49) hx hb d_Tx_leastFree_27 (by decide) (fun c_27 => ?_) (fun c_27 => ?_)
          · have hfr : ¬ (frB re go nn) i = true := fun z => c_27 ((hwR.fr hnn n_9).mp z).2
            refine lv_iinc (v := nI (i + 1)) (lv' := [(2, .int (nI (i + 1))), (0, .ref h), (1, .int (ofO lq))]) hx hb d_Tx_leastFree_49 hl (k := 2) rfl (by exact nI_add _ _) (by decide) rfl (fun ls hl => ?_)
            refine lv_goto (tgt := 4) hx hb d_Tx_leastFree_52 (by decide) ?_
            exact ih_4 (i + 1) lq _ _ _ (by omega) (by omega) (by cases lq with | none => exact (lfO_no hlq.symm hfr).symm | some a => exact (lfO_some hlq.symm).symm) (by rw [← cnt_no hfr]; exact hcn) hP hD hS (lv_sub hl [1, 2, 0] rfl)
          · have hfr : (frB re go nn) i = true := (hwR.fr hnn n_9).mpr ⟨c_18, c_27⟩
            rcases lq with _ | a9
            · have hl : lv_has ls 3 [(0, .ref h), (1, .int (-1)), (2, .int (nI i))] := hl
              refine lv_iload_n hx hb d_Tx_leastFree_30 rfl (lv_at hl 1 rfl) ?_
              refine lv_iconst (v := (-1)) hx hb d_Tx_leastFree_31 (by decide) ?_
              refine lv_icmp_eq (tgt := 47) hx hb d_Tx_leastFree_32 (by decide) (fun _ => ?_) (fun c_32 => absurd (by decide) c_32)
              refine lv_iload_n hx hb d_Tx_leastFree_47 rfl (lv_at hl 2 rfl) ?_
              refine lv_istore_n (lv' := [(1, .int (nI i)), (0, .ref h), (2, .int (nI i))]) hx hb d_Tx_leastFree_48 rfl hl (by decide) rfl (fun ls hl => ?_)
              refine lv_iinc (v := nI (i + 1)) (lv' := [(2, .int (nI (i + 1))), (1, .int (nI i)), (0, .ref h)]) hx hb d_Tx_leastFree_49 hl (k := 2) rfl (by exact nI_add _ _) (by decide) rfl (fun ls hl => ?_)
              refine lv_goto (tgt := 4) hx hb d_Tx_leastFree_52 (by decide) ?_
              exact ih_4 (i + 1) (some i) _ _ _ (by omega) (by omega) ((lfO_yes hlq.symm hfr).symm) (by rw [← cnt_yes hfr, hcn]; rfl) hP hD hS (lv_sub hl [2, 1, 0] rfl)
            · have hl : lv_has ls 3 [(0, .ref h), (1, .int (nI a9)), (2, .int (nI i))] := hl
              obtain ⟨ha9, -, -⟩ := lfO_spec hlq.symm
              refine lv_iload_n hx hb d_Tx_leastFree_30 rfl (lv_at hl 1 rfl) ?_
              refine lv_iconst (v := (-1)) hx hb d_Tx_leastFree_31 (by decide) ?_
              refine lv_icmp_eq (tgt := 47) hx hb d_Tx_leastFree_32 (by decide) (fun c_32 => absurd c_32 (fun z => nI_nm1 (by omega) z.symm)) (fun _ => ?_)
              refine lv_aload_n hx hb d_Tx_leastFree_35 rfl (lv_at hl 0 rfl) ?_
              refine lv_dup hx hb d_Tx_leastFree_36 rfl ?_
              refine va_get (D := (dC, dI)) (ci := 10) (v := .int (nI un)) (C := R_Tx) (T := F_Tx) (N := 19) hx hb hts i_Tx hown hK hP 0 rfl rfl 3 (by decide) (hts _ gw_382) (fun _ h9 => h9) rfl d_Tx_leastFree_37 ?_
              refine lv_iconst (v := 1) hx hb d_Tx_leastFree_40 (by decide) ?_
              refine lv_iadd hx hb d_Tx_leastFree_41 ?_
              refine lv_topi (fun x_1 ex_1 => ?_)
              obtain rfl : x_1 = nI (un + 1) := by rw [ex_1]; first | done | (exact nI_add _ _)
              refine va_put (D := (dC, dI)) (ci := 10) (v := .int (nI (un + 1))) (ty := .int) (C := R_Tx) (T := F_Tx) (N := 19) hx hb hts i_Tx t_Tx t_Tx_ok n_Tx hown hK hP hD hS 0 rfl rfl 3 (by decide) (hts _ gw_382) (fun _ h9 => h9) rfl (by decide +kernel) rfl rfl (Nat.le_of_ble_eq_true rfl) d_Tx_leastFree_42 (fun H locs hP hD hS => ?_)
              have hP : va_P (dC, dI) classes [(h, .inr (10, [tx_order, tx_length, tx_size, .int (nI (un + 1)), tx_stranded, tx_dead, tx_stock, tx_changes, tx_lines, tx_loaded, tx_version, tx_loadedFile, tx_rows, tx_slots, .int (nI nn), tx_reach, tx_deleters, .ref goA, .ref waA])), (goA, .inl (cI, 400, .inl go)), (waA, .inl (cI, 400, .inl wt))] H := hP
              have hD : va_D A [(h, .inr (10, [tx_order, tx_length, tx_size, .int (nI (un + 1)), tx_stranded, tx_dead, tx_stock, tx_changes, tx_lines, tx_loaded, tx_version, tx_loadedFile, tx_rows, tx_slots, .int (nI nn), tx_reach, tx_deleters, .ref goA, .ref waA])), (goA, .inl (cI, 400, .inl go)), (waA, .inl (cI, 400, .inl wt))] := hD
              refine lv_iload_n hx hb d_Tx_leastFree_45 rfl (lv_at hl 1 rfl) ?_
              rw [← hQe]
              exact W.iret (v := nI a9) hx hb hr (fun t ht hW => ⟨⟨_, un + 1, rfl, ⟨by have e9 : lfO (frB re go nn) nn = some a9 := lfO_far hlq.symm (by omega); rw [e9]; rfl, by rw [if_pos (Nat.le_trans (by rw [← cnt_yes hfr, hcn]; exact Nat.le_refl _) (cnt_mono (by omega : i + 1 ≤ nn)))]⟩, by rw [ht]; exact hP, va_K.moved hW.alike hK, hD⟩, hS.F ht⟩) hS.2.2 d_Tx_leastFree_46
  exact loop_4 _ 0 none _ _ _ (Nat.lt_succ_self _) (Nat.zero_le _) (rfl) (rfl) hP hD hS (lv_sub hl [2, 1, 0] rfl)
set_option maxHeartbeats 4000000 in
set_option maxRecDepth 100000 in
/-- a slot is taken -/
theorem m_Tx_takeSlot (l : Launch) (dC : Nat → ClassId) (dI : Nat → Nat → Nat) (cI cB cL cZ cR : ClassId) (h ln llA trA goA odA waA reA : Nat) (tx_unsure tx_stranded tx_dead tx_stock tx_changes tx_loaded tx_version tx_loadedFile tx_slots tx_deleters ln_at ln_change ln_place ln_up ln_down ln_ofFile ln_total : Value) (S : Stk) (rw9 go od wt : Nat → Int32) (re : Nat → Int64) (nn s9 le zs x1 n1 : Nat) (sz : Nat) (hnn : nn ≤ 400) (hs9 : s9 < nn) (hle : le < 400) (hx1 : rw9 s9 = nI x1) (hx4 : x1 < 4000) (hn1 : S.ll x1 = nI n1) (hn5 : n1 ≤ 500) (hzs : zs ≤ 300000) : Met l y_Tx_takeSlot ws_Tx_takeSlot ({ frames := 1, cells := 0, slots := 0, locals := 80 }) (xw_Pc dC dI [(cI, .int), (cB, .byte), (cL, .long), (cZ, .boolean), (cR, .object "PatchStore$Repository")] [.ref h, .int (nI s9)] [(h, .inr (10, [.ref odA, .int (nI le), .int (nI zs), tx_unsure, tx_stranded, tx_dead, tx_stock, tx_changes, .ref ln, tx_loaded, tx_version, tx_loadedFile, .ref trA, tx_slots, .int (nI nn), .ref reA, tx_deleters, .ref goA, .ref waA])), (ln, .inr (4, [ln_at, .ref llA, ln_change, ln_place, ln_up, ln_down, ln_ofFile, ln_total])), (llA, .inl (cI, 4000, .inl S.ll)), (trA, .inl (cI, 400, .inl rw9)), (goA, .inl (cI, 400, .inl go)), (odA, .inl (cI, 400, .inl od)), (waA, .inl (cI, 400, .inl wt)), (reA, .inl (cL, 2800, .inr (.inl re)))] sz) (va_Qv (fun _ : Unit => True) (fun _ t => xw_B dC dI [(cI, .int), (cB, .byte), (cL, .long), (cZ, .boolean), (cR, .object "PatchStore$Repository")] (va_A [(h, .inr (10, [.ref odA, .int (nI le), .int (nI zs), tx_unsure, tx_stranded, tx_dead, tx_stock, tx_changes, .ref ln, tx_loaded, tx_version, tx_loadedFile, .ref trA, tx_slots, .int (nI nn), .ref reA, tx_deleters, .ref goA, .ref waA])), (ln, .inr (4, [ln_at, .ref llA, ln_change, ln_place, ln_up, ln_down, ln_ofFile, ln_total])), (llA, .inl (cI, 4000, .inl S.ll)), (trA, .inl (cI, 400, .inl rw9)), (goA, .inl (cI, 400, .inl go)), (odA, .inl (cI, 400, .inl od)), (waA, .inl (cI, 400, .inl wt)), (reA, .inl (cL, 2800, .inr (.inl re)))] sz) [(h, .inr (10, [.ref odA, .int (nI (le + 1)), .int (nI (zs + n1)), tx_unsure, tx_stranded, tx_dead, tx_stock, tx_changes, .ref ln, tx_loaded, tx_version, tx_loadedFile, .ref trA, tx_slots, .int (nI nn), .ref reA, tx_deleters, .ref goA, .ref waA])), (ln, .inr (4, [ln_at, .ref llA, ln_change, ln_place, ln_up, ln_down, ln_ofFile, ln_total])), (llA, .inl (cI, 4000, .inl S.ll)), (trA, .inl (cI, 400, .inl rw9)), (goA, .inl (cI, 400, .inl (upd go s9 1))), (odA, .inl (cI, 400, .inl (upd od le (nI x1)))), (waA, .inl (cI, 400, .inl (wtU re go wt s9 nn))), (reA, .inl (cL, 2800, .inr (.inl re)))] t) (va_A [(h, .inr (10, [.ref odA, .int (nI le), .int (nI zs), tx_unsure, tx_stranded, tx_dead, tx_stock, tx_changes, .ref ln, tx_loaded, tx_version, tx_loadedFile, .ref trA, tx_slots, .int (nI nn), .ref reA, tx_deleters, .ref goA, .ref waA])), (ln, .inr (4, [ln_at, .ref llA, ln_change, ln_place, ln_up, ln_down, ln_ofFile, ln_total])), (llA, .inl (cI, 4000, .inl S.ll)), (trA, .inl (cI, 400, .inl rw9)), (goA, .inl (cI, 400, .inl go)), (odA, .inl (cI, 400, .inl od)), (waA, .inl (cI, 400, .inl wt)), (reA, .inl (cL, 2800, .inr (.inl re)))] sz)) 0 0 (va_A [(h, .inr (10, [.ref odA, .int (nI le), .int (nI zs), tx_unsure, tx_stranded, tx_dead, tx_stock, tx_changes, .ref ln, tx_loaded, tx_version, tx_loadedFile, .ref trA, tx_slots, .int (nI nn), .ref reA, tx_deleters, .ref goA, .ref waA])), (ln, .inr (4, [ln_at, .ref llA, ln_change, ln_place, ln_up, ln_down, ln_ofFile, ln_total])), (llA, .inl (cI, 4000, .inl S.ll)), (trA, .inl (cI, 400, .inl rw9)), (goA, .inl (cI, 400, .inl go)), (odA, .inl (cI, 400, .inl od)), (waA, .inl (cI, 400, .inl wt)), (reA, .inl (cL, 2800, .inr (.inl re)))] sz) := by
  refine Met.ofW (cc := prog_11_method_18_code) (maxL := 3) (ret := none) (by decide) rfl ?_
  intro p e s m args below meth c s₁ B hml hv
  obtain ⟨rfl, hsz, hP, hK, hD0⟩ := hv
  have hx := B.exec
  have hb := B.bytes
  have hr := B.returns
  have hts0 := atoms_spec (ws := ws_Tx_takeSlot) B.pre
  have hts : ∀ w ∈ xg_1, w.before _ s = true := fun w h => hts0 w (List.mem_cons_of_mem _ h)
  have hown : s.vm.findClass "PatchStore$Text" = some m.cls := findClass_of_methodNamed B.named
  have hlocks := B.notSynchronized
  subst hsz
  have hD := hD0.self (sz := s.heap.size)
  generalize hAe : va_A [(h, .inr (10, [.ref odA, .int (nI le), .int (nI zs), tx_unsure, tx_stranded, tx_dead, tx_stock, tx_changes, .ref ln, tx_loaded, tx_version, tx_loadedFile, .ref trA, tx_slots, .int (nI nn), .ref reA, tx_deleters, .ref goA, .ref waA])), (ln, .inr (4, [ln_at, .ref llA, ln_change, ln_place, ln_up, ln_down, ln_ofFile, ln_total])), (llA, .inl (cI, 4000, .inl S.ll)), (trA, .inl (cI, 400, .inl rw9)), (goA, .inl (cI, 400, .inl go)), (odA, .inl (cI, 400, .inl od)), (waA, .inl (cI, 400, .inl wt)), (reA, .inl (cL, 2800, .inr (.inl re)))] s.heap.size = A at hD ⊢
  have hA : ∀ q : Nat, s.heap.size ≤ q → A q := fun q h => by rw [← hAe]; exact Or.inr h
  have hS : va_S A s.heap s.heap [] := va_S.rf
  have hl := lv_entry ([.ref h, .int (nI s9)]) (n := 3) (Nat.le_of_ble_eq_true rfl)
  rw [lg_entry_eq]
  generalize (lg_sl ([.ref h, .int (nI s9)]) ++ List.replicate (3 - (lg_sl ([.ref h, .int (nI s9)])).length) Slot.unset).toArray = ls at hl ⊢
  have hl : lv_has ls 3 [(0, .ref h), (1, .int (nI s9))] := hl
  generalize hQe : MQ _ _ _ _ _ _ _ = Q
  refine lv_aload_n hx hb d_Tx_takeSlot_0 rfl (lv_at hl 0 rfl) ?_
  refine va_get (D := (dC, dI)) (ci := 10) (v := .ref goA) (C := R_Tx) (T := F_Tx) (N := 19) hx hb hts i_Tx hown hK hP 0 rfl rfl 17 (by decide) (hts _ gw_399) (fun _ h9 => h9) rfl d_Tx_takeSlot_1 ?_
  refine lv_iload_n hx hb d_Tx_takeSlot_4 rfl (lv_at hl 1 rfl) ?_
  refine lv_iconst (v := 1) hx hb d_Tx_takeSlot_5 (by decide) ?_
  refine va_iast hx hb hK hP hD hS 4 0 rfl rfl (vp_in_nI (by omega) (by omega)) d_Tx_takeSlot_6 (fun H locs hP hD hS => ?_)
  rw [show (nI s9).toNatClampNeg = s9 from nI_clamp (by omega)] at hP hD
  have hP : va_P (dC, dI) classes [(h, .inr (10, [.ref odA, .int (nI le), .int (nI zs), tx_unsure, tx_stranded, tx_dead, tx_stock, tx_changes, .ref ln, tx_loaded, tx_version, tx_loadedFile, .ref trA, tx_slots, .int (nI nn), .ref reA, tx_deleters, .ref goA, .ref waA])), (ln, .inr (4, [ln_at, .ref llA, ln_change, ln_place, ln_up, ln_down, ln_ofFile, ln_total])), (llA, .inl (cI, 4000, .inl S.ll)), (trA, .inl (cI, 400, .inl rw9)), (goA, .inl (cI, 400, .inl (upd go s9 1))), (odA, .inl (cI, 400, .inl od)), (waA, .inl (cI, 400, .inl wt)), (reA, .inl (cL, 2800, .inr (.inl re)))] H := hP
  have hD : va_D A [(h, .inr (10, [.ref odA, .int (nI le), .int (nI zs), tx_unsure, tx_stranded, tx_dead, tx_stock, tx_changes, .ref ln, tx_loaded, tx_version, tx_loadedFile, .ref trA, tx_slots, .int (nI nn), .ref reA, tx_deleters, .ref goA, .ref waA])), (ln, .inr (4, [ln_at, .ref llA, ln_change, ln_place, ln_up, ln_down, ln_ofFile, ln_total])), (llA, .inl (cI, 4000, .inl S.ll)), (trA, .inl (cI, 400, .inl rw9)), (goA, .inl (cI, 400, .inl (upd go s9 1))), (odA, .inl (cI, 400, .inl od)), (waA, .inl (cI, 400, .inl wt)), (reA, .inl (cL, 2800, .inr (.inl re)))] := hD
  refine lv_aload_n hx hb d_Tx_takeSlot_7 rfl (lv_at hl 0 rfl) ?_
  refine va_get (D := (dC, dI)) (ci := 10) (v := .ref odA) (C := R_Tx) (T := F_Tx) (N := 19) hx hb hts i_Tx hown hK hP 0 rfl rfl 0 (by decide) (hts _ gw_374) (fun _ h9 => h9) rfl d_Tx_takeSlot_8 ?_
  refine lv_aload_n hx hb d_Tx_takeSlot_11 rfl (lv_at hl 0 rfl) ?_
  refine va_get (D := (dC, dI)) (ci := 10) (v := .int (nI le)) (C := R_Tx) (T := F_Tx) (N := 19) hx hb hts i_Tx hown hK hP 0 rfl rfl 1 (by decide) (hts _ gw_379) (fun _ h9 => h9) rfl d_Tx_takeSlot_12 ?_
  refine lv_aload_n hx hb d_Tx_takeSlot_15 rfl (lv_at hl 0 rfl) ?_
  refine va_get (D := (dC, dI)) (ci := 10) (v := .ref trA) (C := R_Tx) (T := F_Tx) (N := 19) hx hb hts i_Tx hown hK hP 0 rfl rfl 12 (by decide) (hts _ gw_394) (fun _ h9 => h9) rfl d_Tx_takeSlot_16 ?_
  refine lv_iload_n hx hb d_Tx_takeSlot_19 rfl (lv_at hl 1 rfl) ?_
  refine va_iald hx hb hK hP 3 0 rfl rfl (vp_in_nI (by omega) (by omega)) d_Tx_takeSlot_20 ?_
  rw [show (nI s9).toNatClampNeg = s9 from nI_clamp (by omega)]
  refine lv_topi (fun x_1 ex_1 => ?_)
  obtain rfl : x_1 = nI x1 := by rw [ex_1]; first | done | (exact hx1)
  refine va_iast hx hb hK hP hD hS 5 0 rfl rfl (vp_in_nI (by omega) (by omega)) d_Tx_takeSlot_21 (fun H locs hP hD hS => ?_)
  rw [show (nI le).toNatClampNeg = le from nI_clamp (by omega)] at hP hD
  have hP : va_P (dC, dI) classes [(h, .inr (10, [.ref odA, .int (nI le), .int (nI zs), tx_unsure, tx_stranded, tx_dead, tx_stock, tx_changes, .ref ln, tx_loaded, tx_version, tx_loadedFile, .ref trA, tx_slots, .int (nI nn), .ref reA, tx_deleters, .ref goA, .ref waA])), (ln, .inr (4, [ln_at, .ref llA, ln_change, ln_place, ln_up, ln_down, ln_ofFile, ln_total])), (llA, .inl (cI, 4000, .inl S.ll)), (trA, .inl (cI, 400, .inl rw9)), (goA, .inl (cI, 400, .inl (upd go s9 1))), (odA, .inl (cI, 400, .inl (upd od le (nI x1)))), (waA, .inl (cI, 400, .inl wt)), (reA, .inl (cL, 2800, .inr (.inl re)))] H := hP
  have hD : va_D A [(h, .inr (10, [.ref odA, .int (nI le), .int (nI zs), tx_unsure, tx_stranded, tx_dead, tx_stock, tx_changes, .ref ln, tx_loaded, tx_version, tx_loadedFile, .ref trA, tx_slots, .int (nI nn), .ref reA, tx_deleters, .ref goA, .ref waA])), (ln, .inr (4, [ln_at, .ref llA, ln_change, ln_place, ln_up, ln_down, ln_ofFile, ln_total])), (llA, .inl (cI, 4000, .inl S.ll)), (trA, .inl (cI, 400, .inl rw9)), (goA, .inl (cI, 400, .inl (upd go s9 1))), (odA, .inl (cI, 400, .inl (upd od le (nI x1)))), (waA, .inl (cI, 400, .inl wt)), (reA, .inl (cL, 2800, .inr (.inl re)))] := hD
  refine lv_aload_n hx hb d_Tx_takeSlot_22 rfl (lv_at hl 0 rfl) ?_
  refine lv_dup hx hb d_Tx_takeSlot_23 rfl ?_
  refine va_get (D := (dC, dI)) (ci := 10) (v := .int (nI le)) (C := R_Tx) (T := F_Tx) (N := 19) hx hb hts i_Tx hown hK hP 0 rfl rfl 1 (by decide) (hts _ gw_379) (fun _ h9 => h9) rfl d_Tx_takeSlot_24 ?_
  refine lv_iconst (v := 1) hx hb d_Tx_takeSlot_27 (by decide) ?_
  refine lv_iadd hx hb d_Tx_takeSlot_28 ?_
  refine lv_topi (fun x_2 ex_2 => ?_)
  obtain rfl : x_2 = nI (le + 1) := by rw [ex_2]; first | done | (exact nI_add _ _)
  refine va_put (D := (dC, dI)) (ci := 10) (v := .int (nI (le + 1))) (ty := .int) (C := R_Tx) (T := F_Tx) (N := 19) hx hb hts i_Tx t_Tx t_Tx_ok n_Tx hown hK hP hD hS 0 rfl rfl 1 (by decide) (hts _ gw_379) (fun _ h9 => h9) rfl (by decide +kernel) rfl rfl (Nat.le_of_ble_eq_true rfl) d_Tx_takeSlot_29 (fun H locs hP hD hS => ?_)
  have hP : va_P (dC, dI) classes [(h, .inr (10, [.ref odA, .int (nI (le + 1)), .int (nI zs), tx_unsure, tx_stranded, tx_dead, tx_stock, tx_changes, .ref ln, tx_loaded, tx_version, tx_loadedFile, .ref trA, tx_slots, .int (nI nn), .ref reA, tx_deleters, .ref goA, .ref waA])), (ln, .inr (4, [ln_at, .ref llA, ln_change, ln_place, ln_up, ln_down, ln_ofFile, ln_total])), (llA, .inl (cI, 4000, .inl S.ll)), (trA, .inl (cI, 400, .inl rw9)), (goA, .inl (cI, 400, .inl (upd go s9 1))), (odA, .inl (cI, 400, .inl (upd od le (nI x1)))), (waA, .inl (cI, 400, .inl wt)), (reA, .inl (cL, 2800, .inr (.inl re)))] H := hP
  have hD : va_D A [(h, .inr (10, [.ref odA, .int (nI (le + 1)), .int (nI zs), tx_unsure, tx_stranded, tx_dead, tx_stock, tx_changes, .ref ln, tx_loaded, tx_version, tx_loadedFile, .ref trA, tx_slots, .int (nI nn), .ref reA, tx_deleters, .ref goA, .ref waA])), (ln, .inr (4, [ln_at, .ref llA, ln_change, ln_place, ln_up, ln_down, ln_ofFile, ln_total])), (llA, .inl (cI, 4000, .inl S.ll)), (trA, .inl (cI, 400, .inl rw9)), (goA, .inl (cI, 400, .inl (upd go s9 1))), (odA, .inl (cI, 400, .inl (upd od le (nI x1)))), (waA, .inl (cI, 400, .inl wt)), (reA, .inl (cL, 2800, .inr (.inl re)))] := hD
  refine lv_aload_n hx hb d_Tx_takeSlot_32 rfl (lv_at hl 0 rfl) ?_
  refine lv_dup hx hb d_Tx_takeSlot_33 rfl ?_
  refine va_get (D := (dC, dI)) (ci := 10) (v := .int (nI zs)) (C := R_Tx) (T := F_Tx) (N := 19) hx hb hts i_Tx hown hK hP 0 rfl rfl 2 (by decide) (hts _ gw_380) (fun _ h9 => h9) rfl d_Tx_takeSlot_34 ?_
  refine lv_aload_n hx hb d_Tx_takeSlot_37 rfl (lv_at hl 0 rfl) ?_
  refine va_get (D := (dC, dI)) (ci := 10) (v := .ref ln) (C := R_Tx) (T := F_Tx) (N := 19) hx hb hts i_Tx hown hK hP 0 rfl rfl 8 (by decide) (hts _ gw_390) (fun _ h9 => h9) rfl d_Tx_takeSlot_38 ?_
  refine va_get (D := (dC, dI)) (ci := 4) (v := .ref llA) (C := R_Li) (T := F_Li) (N := 8) hx hb hts i_Li hown hK hP 1 rfl rfl 1 (by decide) (hts _ gw_141) (fun _ h9 => h9) rfl d_Tx_takeSlot_41 ?_
  refine lv_aload_n hx hb d_Tx_takeSlot_44 rfl (lv_at hl 0 rfl) ?_
  refine va_get (D := (dC, dI)) (ci := 10) (v := .ref trA) (C := R_Tx) (T := F_Tx) (N := 19) hx hb hts i_Tx hown hK hP 0 rfl rfl 12 (by decide) (hts _ gw_394) (fun _ h9 => h9) rfl d_Tx_takeSlot_45 ?_
  refine lv_iload_n hx hb d_Tx_takeSlot_48 rfl (lv_at hl 1 rfl) ?_
  refine va_iald hx hb hK hP 3 0 rfl rfl (vp_in_nI (by omega) (by omega)) d_Tx_takeSlot_49 ?_
  rw [show (nI s9).toNatClampNeg = s9 from nI_clamp (by omega)]
  refine lv_topi (fun x_3 ex_3 => ?_)
  obtain rfl : x_3 = nI x1 := by rw [ex_3]; first | done | (exact hx1)
  refine va_iald hx hb hK hP 2 0 rfl rfl (vp_in_nI (by omega) (by omega)) d_Tx_takeSlot_50 ?_
  rw [show (nI x1).toNatClampNeg = x1 from nI_clamp (by omega)]
  refine lv_topi (fun x_4 ex_4 => ?_)
  obtain rfl : x_4 = nI n1 := by rw [ex_4]; first | done | (exact hn1)
  refine lv_iadd hx hb d_Tx_takeSlot_51 ?_
  refine lv_topi (fun x_5 ex_5 => ?_)
  obtain rfl : x_5 = nI (zs + n1) := by rw [ex_5]; first | done | (exact nI_add _ _)
  refine va_put (D := (dC, dI)) (ci := 10) (v := .int (nI (zs + n1))) (ty := .int) (C := R_Tx) (T := F_Tx) (N := 19) hx hb hts i_Tx t_Tx t_Tx_ok n_Tx hown hK hP hD hS 0 rfl rfl 2 (by decide) (hts _ gw_380) (fun _ h9 => h9) rfl (by decide +kernel) rfl rfl (Nat.le_of_ble_eq_true rfl) d_Tx_takeSlot_52 (fun H locs hP hD hS => ?_)
  have hP : va_P (dC, dI) classes [(h, .inr (10, [.ref odA, .int (nI (le + 1)), .int (nI (zs + n1)), tx_unsure, tx_stranded, tx_dead, tx_stock, tx_changes, .ref ln, tx_loaded, tx_version, tx_loadedFile, .ref trA, tx_slots, .int (nI nn), .ref reA, tx_deleters, .ref goA, .ref waA])), (ln, .inr (4, [ln_at, .ref llA, ln_change, ln_place, ln_up, ln_down, ln_ofFile, ln_total])), (llA, .inl (cI, 4000, .inl S.ll)), (trA, .inl (cI, 400, .inl rw9)), (goA, .inl (cI, 400, .inl (upd go s9 1))), (odA, .inl (cI, 400, .inl (upd od le (nI x1)))), (waA, .inl (cI, 400, .inl wt)), (reA, .inl (cL, 2800, .inr (.inl re)))] H := hP
  have hD : va_D A [(h, .inr (10, [.ref odA, .int (nI (le + 1)), .int (nI (zs + n1)), tx_unsure, tx_stranded, tx_dead, tx_stock, tx_changes, .ref ln, tx_loaded, tx_version, tx_loadedFile, .ref trA, tx_slots, .int (nI nn), .ref reA, tx_deleters, .ref goA, .ref waA])), (ln, .inr (4, [ln_at, .ref llA, ln_change, ln_place, ln_up, ln_down, ln_ofFile, ln_total])), (llA, .inl (cI, 4000, .inl S.ll)), (trA, .inl (cI, 400, .inl rw9)), (goA, .inl (cI, 400, .inl (upd go s9 1))), (odA, .inl (cI, 400, .inl (upd od le (nI x1)))), (waA, .inl (cI, 400, .inl wt)), (reA, .inl (cL, 2800, .inr (.inl re)))] := hD
  refine lv_iconst (v := 0) hx hb d_Tx_takeSlot_55 (by decide) ?_
  refine lv_istore_n (lv' := [(2, .int 0), (0, .ref h), (1, .int (nI s9))]) hx hb d_Tx_takeSlot_56 rfl hl (by decide) rfl (fun ls hl => ?_)
  rw [← wtU_0 re go wt s9] at hP hD
  have loop_57 : ∀ (n9 : Nat) (i : Nat) (H : Heap) (locs : List Loc) (ls : Array Slot), nn - i < n9 → (i ≤ nn) → va_P (dC, dI) classes [(h, .inr (10, [.ref odA, .int (nI (le + 1)), .int (nI (zs + n1)), tx_unsure, tx_stranded, tx_dead, tx_stock, tx_changes, .ref ln, tx_loaded, tx_version, tx_loadedFile, .ref trA, tx_slots, .int (nI nn), .ref reA, tx_deleters, .ref goA, .ref waA])), (ln, .inr (4, [ln_at, .ref llA, ln_change, ln_place, ln_up, ln_down, ln_ofFile, ln_total])), (llA, .inl (cI, 4000, .inl S.ll)), (trA, .inl (cI, 400, .inl rw9)), (goA, .inl (cI, 400, .inl (upd go s9 1))), (odA, .inl (cI, 400, .inl (upd od le (nI x1)))), (waA, .inl (cI, 400, .inl (wtU re go wt s9 i))), (reA, .inl (cL, 2800, .inr (.inl re)))] H → va_D A [(h, .inr (10, [.ref odA, .int (nI (le + 1)), .int (nI (zs + n1)), tx_unsure, tx_stranded, tx_dead, tx_stock, tx_changes, .ref ln, tx_loaded, tx_version, tx_loadedFile, .ref trA, tx_slots, .int (nI nn), .ref reA, tx_deleters, .ref goA, .ref waA])), (ln, .inr (4, [ln_at, .ref llA, ln_change, ln_place, ln_up, ln_down, ln_ofFile, ln_total])), (llA, .inl (cI, 4000, .inl S.ll)), (trA, .inl (cI, 400, .inl rw9)), (goA, .inl (cI, 400, .inl (upd go s9 1))), (odA, .inl (cI, 400, .inl (upd od le (nI x1)))), (waA, .inl (cI, 400, .inl (wtU re go wt s9 i))), (reA, .inl (cL, 2800, .inr (.inl re)))] → va_S A s.heap H locs → lv_has ls 3 [(0, .ref h), (1, .int (nI s9)), (2, .int (nI i))] → W p l e (headSpec ws_Tx_takeSlot ({ frames := 1, cells := 0, slots := 0, locals := 80 })).room s m ([.ref h, .int (nI s9)] : List Value).toArray below meth c H locs 0 0 Q (F0 m 57 ls []) := by
    intro n9
    induction n9 with
    | zero => intro i H locs ls hm; exact absurd hm (Nat.not_lt_zero _)
    | succ n9 ih_57 =>
      intro i H locs ls hm hi hP hD hS hl
      refine lv_iload_n hx hb d_Tx_takeSlot_57 rfl (lv_at hl 2 rfl) ?_
      refine lv_aload_n hx hb d_Tx_takeSlot_58 rfl (lv_at hl 0 rfl) ?_
      refine va_get (D := (dC, dI)) (ci := 10) (v := .int (nI nn)) (C := R_Tx) (T := F_Tx) (N := 19) hx hb hts i_Tx hown hK hP 0 rfl rfl 14 (by decide) (hts _ gw_396) (fun _ h9 => h9) rfl d_Tx_takeSlot_59 ?_
      refine lv_icmp_ge (tgt := 108) hx hb d_Tx_takeSlot_62 (by decide) (fun c_62 => ?_) (fun c_62 => ?_)
      · have n_62 : nn ≤ i := (nI_leI (a := nn) (b := i) (by omega) (by omega)).mp c_62
        rw [show i = nn by omega] at hP hD
        rw [← hQe]
        exact W.vret hx hb hr (fun t ht hW => ⟨⟨(), rfl, trivial, by rw [ht]; exact hP, va_K.moved hW.alike hK, hD⟩, hS.F ht⟩) hS.2.2 d_Tx_takeSlot_108
      · have n_62 : i < nn := Nat.lt_of_not_le (fun z => c_62 ((nI_leI (a := nn) (b := i) (by omega) (by omega)).mpr z))
        refine lv_aload_n hx hb d_Tx_takeSlot_65 rfl (lv_at hl 0 rfl) ?_
        refine va_get (D := (dC, dI)) (ci := 10) (v := .ref goA) (C := R_Tx) (T := F_Tx) (N := 19) hx hb hts i_Tx hown hK hP 0 rfl rfl 17 (by decide) (hts _ gw_399) (fun _ h9 => h9) rfl d_Tx_takeSlot_66 ?_
        refine lv_iload_n hx hb d_Tx_takeSlot_69 rfl (lv_at hl 2 rfl) ?_
        refine va_iald hx hb hK hP 4 0 rfl rfl (vp_in_nI (by omega) (by omega)) d_Tx_takeSlot_70 ?_
        rw [show (nI i).toNatClampNeg = i from nI_clamp (by omega)]
        refine lv_if_ne (tgt := 102) hx hb d_Tx_takeSlot_71 (by decide) (fun c_71 => ?_) (fun c_71 => ?_)
        · rw [wtU_no (re := re) (go := go) (wt := wt) (s := s9) (o := i) (fun z => c_71 z.1)] at hP hD
          refine lv_iinc (v := nI (i + 1)) (lv' := [(2, .int (nI (i + 1))), (0, .ref h), (1, .int (nI s9))]) hx hb d_Tx_takeSlot_102 hl (k := 2) rfl (by exact nI_add _ _) (by decide) rfl (fun ls hl => ?_)
          refine lv_goto (tgt := 57) hx hb d_Tx_takeSlot_105 (by decide) ?_
          exact ih_57 (i + 1) _ _ _ (by omega) (by omega) hP hD hS (lv_sub hl [1, 2, 0] rfl)
        · refine lv_aload_n hx hb d_Tx_takeSlot_74 rfl (lv_at hl 0 rfl) ?_
          refine lv_iload_n hx hb d_Tx_takeSlot_75 rfl (lv_at hl 1 rfl) ?_
          refine lv_iload_n hx hb d_Tx_takeSlot_76 rfl (lv_at hl 2 rfl) ?_
          have hPc := hP.sub (ws' := [(h, .inr (10, [.ref odA, .int (nI (le + 1)), .int (nI (zs + n1)), tx_unsure, tx_stranded, tx_dead, tx_stock, tx_changes, .ref ln, tx_loaded, tx_version, tx_loadedFile, .ref trA, tx_slots, .int (nI nn), .ref reA, tx_deleters, .ref goA, .ref waA])), (reA, .inl (cL, 2800, .inr (.inl re)))]) [0, 7] rfl
          have hDc := hD.sub (ws' := [(h, .inr (10, [.ref odA, .int (nI (le + 1)), .int (nI (zs + n1)), tx_unsure, tx_stranded, tx_dead, tx_stock, tx_changes, .ref ln, tx_loaded, tx_version, tx_loadedFile, .ref trA, tx_slots, .int (nI nn), .ref reA, tx_deleters, .ref goA, .ref waA])), (reA, .inl (cL, 2800, .inr (.inl re)))]) [0, 7] (by decide) rfl
          have hFc := va_free (wc := [(h, .inr (10, [.ref odA, .int (nI (le + 1)), .int (nI (zs + n1)), tx_unsure, tx_stranded, tx_dead, tx_stock, tx_changes, .ref ln, tx_loaded, tx_version, tx_loadedFile, .ref trA, tx_slots, .int (nI nn), .ref reA, tx_deleters, .ref goA, .ref waA])), (reA, .inl (cL, 2800, .inr (.inl re)))]) hD hS hA [0, 7] rfl
          refine va_calli (va_runV (As := [.int (nI s9), .int (nI i)]) (rest := []) ⟨hx, hb, hml, hown, hts⟩ (m_Tx_reaches l dC dI cI cB cL cZ cR h reA (.ref odA) (.int (nI (le + 1))) (.int (nI (zs + n1))) (tx_unsure) (tx_stranded) (tx_dead) (tx_stock) (tx_changes) (.ref ln) (tx_loaded) (tx_version) (tx_loadedFile) (.ref trA) (tx_slots) (.int (nI nn)) (tx_deleters) (.ref goA) (.ref waA) re s9 i H.size (by omega) (by omega)) (cwV 2 hts (xg_V gw_1102 gw_1104 (xg_p 51 (q := (⟨"PatchStore$Text", "reaches", "(II)Z"⟩, 19)) (by decide +kernel)) gw_9 gw_1105) rfl rfl rfl (by decide +kernel) ⟨Nat.le_of_ble_eq_true rfl, Nat.le_of_ble_eq_true rfl⟩) ⟨xw_blind, va_recv hK hPc (ci := 10) (q0 := 0) rfl rfl, fun U hU hW => ⟨rfl, by rw [hU], by rw [hU]; exact hPc, va_K.moved hW.alike hK, hDc.weaken (fun _ _ _ _ => trivial)⟩⟩ rfl rfl hl.1 rfl (lv_room (Nat.le_of_ble_eq_true rfl)) d_Tx_takeSlot_77 ⟨Nat.le_of_ble_eq_true rfl, Nat.le_of_ble_eq_true rfl⟩) hS (fun q _ h => hFc q h) hFc (fun r9 u t H1 locs ht hvm hw hB hz1 hk1 hS => ?_)
          obtain ⟨hP1, hK1, hD1⟩ := hB
          rw [ht] at hP1
          obtain ⟨hP, hD⟩ := va_join (wr := [(ln, .inr (4, [ln_at, .ref llA, ln_change, ln_place, ln_up, ln_down, ln_ofFile, ln_total])), (llA, .inl (cI, 4000, .inl S.ll)), (trA, .inl (cI, 400, .inl rw9)), (goA, .inl (cI, 400, .inl (upd go s9 1))), (odA, .inl (cI, 400, .inl (upd od le (nI x1)))), (waA, .inl (cI, 400, .inl (wtU re go wt s9 i)))]) (w1 := [(h, .inr (10, [.ref odA, .int (nI (le + 1)), .int (nI (zs + n1)), tx_unsure, tx_stranded, tx_dead, tx_stock, tx_changes, .ref ln, tx_loaded, tx_version, tx_loadedFile, .ref trA, tx_slots, .int (nI nn), .ref reA, tx_deleters, .ref goA, .ref waA])), (reA, .inl (cL, 2800, .inr (.inl re)))]) hP hD [0, 7] [1, 2, 3, 4, 5, 6] rfl rfl (by decide) (by decide) hk1 hFc hP1 hD1
          generalize H1 = H at hP hS ⊢
          have hP : va_P (dC, dI) classes [(ln, .inr (4, [ln_at, .ref llA, ln_change, ln_place, ln_up, ln_down, ln_ofFile, ln_total])), (llA, .inl (cI, 4000, .inl S.ll)), (trA, .inl (cI, 400, .inl rw9)), (goA, .inl (cI, 400, .inl (upd go s9 1))), (odA, .inl (cI, 400, .inl (upd od le (nI x1)))), (waA, .inl (cI, 400, .inl (wtU re go wt s9 i))), (h, .inr (10, [.ref odA, .int (nI (le + 1)), .int (nI (zs + n1)), tx_unsure, tx_stranded, tx_dead, tx_stock, tx_changes, .ref ln, tx_loaded, tx_version, tx_loadedFile, .ref trA, tx_slots, .int (nI nn), .ref reA, tx_deleters, .ref goA, .ref waA])), (reA, .inl (cL, 2800, .inr (.inl re)))] H := hP
          have hD : va_D A [(ln, .inr (4, [ln_at, .ref llA, ln_change, ln_place, ln_up, ln_down, ln_ofFile, ln_total])), (llA, .inl (cI, 4000, .inl S.ll)), (trA, .inl (cI, 400, .inl rw9)), (goA, .inl (cI, 400, .inl (upd go s9 1))), (odA, .inl (cI, 400, .inl (upd od le (nI x1)))), (waA, .inl (cI, 400, .inl (wtU re go wt s9 i))), (h, .inr (10, [.ref odA, .int (nI (le + 1)), .int (nI (zs + n1)), tx_unsure, tx_stranded, tx_dead, tx_stock, tx_changes, .ref ln, tx_loaded, tx_version, tx_loadedFile, .ref trA, tx_slots, .int (nI nn), .ref reA, tx_deleters, .ref goA, .ref waA])), (reA, .inl (cL, 2800, .inr (.inl re)))] := hD
          rcases hw with ⟨rfl, ha1⟩ | ⟨rfl, ha1⟩
          · have hP : va_P (dC, dI) classes [(ln, .inr (4, [ln_at, .ref llA, ln_change, ln_place, ln_up, ln_down, ln_ofFile, ln_total])), (llA, .inl (cI, 4000, .inl S.ll)), (trA, .inl (cI, 400, .inl rw9)), (goA, .inl (cI, 400, .inl (upd go s9 1))), (odA, .inl (cI, 400, .inl (upd od le (nI x1)))), (waA, .inl (cI, 400, .inl (wtU re go wt s9 i))), (h, .inr (10, [.ref odA, .int (nI (le + 1)), .int (nI (zs + n1)), tx_unsure, tx_stranded, tx_dead, tx_stock, tx_changes, .ref ln, tx_loaded, tx_version, tx_loadedFile, .ref trA, tx_slots, .int (nI nn), .ref reA, tx_deleters, .ref goA, .ref waA])), (reA, .inl (cL, 2800, .inr (.inl re)))] H := hP
            have hD : va_D A [(ln, .inr (4, [ln_at, .ref llA, ln_change, ln_place, ln_up, ln_down, ln_ofFile, ln_total])), (llA, .inl (cI, 4000, .inl S.ll)), (trA, .inl (cI, 400, .inl rw9)), (goA, .inl (cI, 400, .inl (upd go s9 1))), (odA, .inl (cI, 400, .inl (upd od le (nI x1)))), (waA, .inl (cI, 400, .inl (wtU re go wt s9 i))), (h, .inr (10, [.ref odA, .int (nI (le + 1)), .int (nI (zs + n1)), tx_unsure, tx_stranded, tx_dead, tx_stock, tx_changes, .ref ln, tx_loaded, tx_version, tx_loadedFile, .ref trA, tx_slots, .int (nI nn), .ref reA, tx_deleters, .ref goA, .ref waA])), (reA, .inl (cL, 2800, .inr (.inl re)))] := hD
            refine lv_if_eq (tgt := 102) hx hb d_Tx_takeSlot_80 (by decide) (fun c_80 => absurd c_80 (by decide)) (fun _ => ?_)
            refine lv_aload_n hx hb d_Tx_takeSlot_83 rfl (lv_at hl 0 rfl) ?_
            refine lv_iload_n hx hb d_Tx_takeSlot_84 rfl (lv_at hl 2 rfl) ?_
            refine lv_iload_n hx hb d_Tx_takeSlot_85 rfl (lv_at hl 1 rfl) ?_
            have hPc := hP.sub (ws' := [(h, .inr (10, [.ref odA, .int (nI (le + 1)), .int (nI (zs + n1)), tx_unsure, tx_stranded, tx_dead, tx_stock, tx_changes, .ref ln, tx_loaded, tx_version, tx_loadedFile, .ref trA, tx_slots, .int (nI nn), .ref reA, tx_deleters, .ref goA, .ref waA])), (reA, .inl (cL, 2800, .inr (.inl re)))]) [6, 7] rfl
            have hDc := hD.sub (ws' := [(h, .inr (10, [.ref odA, .int (nI (le + 1)), .int (nI (zs + n1)), tx_unsure, tx_stranded, tx_dead, tx_stock, tx_changes, .ref ln, tx_loaded, tx_version, tx_loadedFile, .ref trA, tx_slots, .int (nI nn), .ref reA, tx_deleters, .ref goA, .ref waA])), (reA, .inl (cL, 2800, .inr (.inl re)))]) [6, 7] (by decide) rfl
            have hFc := va_free (wc := [(h, .inr (10, [.ref odA, .int (nI (le + 1)), .int (nI (zs + n1)), tx_unsure, tx_stranded, tx_dead, tx_stock, tx_changes, .ref ln, tx_loaded, tx_version, tx_loadedFile, .ref trA, tx_slots, .int (nI nn), .ref reA, tx_deleters, .ref goA, .ref waA])), (reA, .inl (cL, 2800, .inr (.inl re)))]) hD hS hA [6, 7] rfl
            refine va_calli (va_runV (As := [.int (nI i), .int (nI s9)]) (rest := []) ⟨hx, hb, hml, hown, hts⟩ (m_Tx_reaches l dC dI cI cB cL cZ cR h reA (.ref odA) (.int (nI (le + 1))) (.int (nI (zs + n1))) (tx_unsure) (tx_stranded) (tx_dead) (tx_stock) (tx_changes) (.ref ln) (tx_loaded) (tx_version) (tx_loadedFile) (.ref trA) (tx_slots) (.int (nI nn)) (tx_deleters) (.ref goA) (.ref waA) re i s9 H.size (by omega) (by omega)) (cwV 2 hts (xg_V gw_1102 gw_1104 (xg_p 51 (q := (⟨"PatchStore$Text", "reaches", "(II)Z"⟩, 19)) (by decide +kernel)) gw_9 gw_1105) rfl rfl rfl (by decide +kernel) ⟨Nat.le_of_ble_eq_true rfl, Nat.le_of_ble_eq_true rfl⟩) ⟨xw_blind, va_recv hK hPc (ci := 10) (q0 := 0) rfl rfl, fun U hU hW => ⟨rfl, by rw [hU], by rw [hU]; exact hPc, va_K.moved hW.alike hK, hDc.weaken (fun _ _ _ _ => trivial)⟩⟩ rfl rfl hl.1 rfl (lv_room (Nat.le_of_ble_eq_true rfl)) d_Tx_takeSlot_86 ⟨Nat.le_of_ble_eq_true rfl, Nat.le_of_ble_eq_true rfl⟩) hS (fun q _ h => hFc q h) hFc (fun r9 u t H1 locs ht hvm hw hB hz1 hk1 hS => ?_)
            obtain ⟨hP1, hK1, hD1⟩ := hB
            rw [ht] at hP1
            obtain ⟨hP, hD⟩ := va_join (wr := [(ln, .inr (4, [ln_at, .ref llA, ln_change, ln_place, ln_up, ln_down, ln_ofFile, ln_total])), (llA, .inl (cI, 4000, .inl S.ll)), (trA, .inl (cI, 400, .inl rw9)), (goA, .inl (cI, 400, .inl (upd go s9 1))), (odA, .inl (cI, 400, .inl (upd od le (nI x1)))), (waA, .inl (cI, 400, .inl (wtU re go wt s9 i)))]) (w1 := [(h, .inr (10, [.ref odA, .int (nI (le + 1)), .int (nI (zs + n1)), tx_unsure, tx_stranded, tx_dead, tx_stock, tx_changes, .ref ln, tx_loaded, tx_version, tx_loadedFile, .ref trA, tx_slots, .int (nI nn), .ref reA, tx_deleters, .ref goA, .ref waA])), (reA, .inl (cL, 2800, .inr (.inl re)))]) hP hD [6, 7] [0, 1, 2, 3, 4, 5] rfl rfl (by decide) (by decide) hk1 hFc hP1 hD1
            generalize H1 = H at hP hS ⊢
            have hP : va_P (dC, dI) classes [(ln, .inr (4, [ln_at, .ref llA, ln_change, ln_place, ln_up, ln_down, ln_ofFile, ln_total])), (llA, .inl (cI, 4000, .inl S.ll)), (trA, .inl (cI, 400, .inl rw9)), (goA, .inl (cI, 400, .inl (upd go s9 1))), (odA, .inl (cI, 400, .inl (upd od le (nI x1)))), (waA, .inl (cI, 400, .inl (wtU re go wt s9 i))), (h, .inr (10, [.ref odA, .int (nI (le + 1)), .int (nI (zs + n1)), tx_unsure, tx_stranded, tx_dead, tx_stock, tx_changes, .ref ln, tx_loaded, tx_version, tx_loadedFile, .ref trA, tx_slots, .int (nI nn), .ref reA, tx_deleters, .ref goA, .ref waA])), (reA, .inl (cL, 2800, .inr (.inl re)))] H := hP
            have hD : va_D A [(ln, .inr (4, [ln_at, .ref llA, ln_change, ln_place, ln_up, ln_down, ln_ofFile, ln_total])), (llA, .inl (cI, 4000, .inl S.ll)), (trA, .inl (cI, 400, .inl rw9)), (goA, .inl (cI, 400, .inl (upd go s9 1))), (odA, .inl (cI, 400, .inl (upd od le (nI x1)))), (waA, .inl (cI, 400, .inl (wtU re go wt s9 i))), (h, .inr (10, [.ref odA, .int (nI (le + 1)), .int (nI (zs + n1)), tx_unsure, tx_stranded, tx_dead, tx_stock, tx_changes, .ref ln, tx_loaded, tx_version, tx_loadedFile, .ref trA, tx_slots, .int (nI nn), .ref reA, tx_deleters, .ref goA, .ref waA])), (reA, .inl (cL, 2800, .inr (.inl re)))] := hD
            rcases hw with ⟨rfl, ha2⟩ | ⟨rfl, ha2⟩
            · have hP : va_P (dC, dI) classes [(ln, .inr (4, [ln_at, .ref llA, ln_change, ln_place, ln_up, ln_down, ln_ofFile, ln_total])), (llA, .inl (cI, 4000, .inl S.ll)), (trA, .inl (cI, 400, .inl rw9)), (goA, .inl (cI, 400, .inl (upd go s9 1))), (odA, .inl (cI, 400, .inl (upd od le (nI x1)))), (waA, .inl (cI, 400, .inl (wtU re go wt s9 i))), (h, .inr (10, [.ref odA, .int (nI (le + 1)), .int (nI (zs + n1)), tx_unsure, tx_stranded, tx_dead, tx_stock, tx_changes, .ref ln, tx_loaded, tx_version, tx_loadedFile, .ref trA, tx_slots, .int (nI nn), .ref reA, tx_deleters, .ref goA, .ref waA])), (reA, .inl (cL, 2800, .inr (.inl re)))] H := hP
              have hD : va_D A [(ln, .inr (4, [ln_at, .ref llA, ln_change, ln_place, ln_up, ln_down, ln_ofFile, ln_total])), (llA, .inl (cI, 4000, .inl S.ll)), (trA, .inl (cI, 400, .inl rw9)), (goA, .inl (cI, 400, .inl (upd go s9 1))), (odA, .inl (cI, 400, .inl (upd od le (nI x1)))), (waA, .inl (cI, 400, .inl (wtU re go wt s9 i))), (h, .inr (10, [.ref odA, .int (nI (le + 1)), .int (nI (zs + n1)), tx_unsure, tx_stranded, tx_dead, tx_stock, tx_changes, .ref ln, tx_loaded, tx_version, tx_loadedFile, .ref trA, tx_slots, .int (nI nn), .ref reA, tx_deleters, .ref goA, .ref waA])), (reA, .inl (cL, 2800, .inr (.inl re)))] := hD
              refine lv_if_ne (tgt := 102) hx hb d_Tx_takeSlot_89 (by decide) (fun _ => ?_) (fun c_89 => absurd c_89 (by decide))
              rw [wtU_no (re := re) (go := go) (wt := wt) (s := s9) (o := i) (fun z => by have z2 := z.2; unfold befB at z2; rw [ha2] at z2; simp at z2)] at hP hD
              refine lv_iinc (v := nI (i + 1)) (lv' := [(2, .int (nI (i + 1))), (0, .ref h), (1, .int (nI s9))]) hx hb d_Tx_takeSlot_102 hl (k := 2) rfl (by exact nI_add _ _) (by decide) rfl (fun ls hl => ?_)
              refine lv_goto (tgt := 57) hx hb d_Tx_takeSlot_105 (by decide) ?_
              exact ih_57 (i + 1) _ _ _ (by omega) (by omega) (hP.sub [6, 0, 1, 2, 3, 4, 5, 7] rfl) (hD.sub [6, 0, 1, 2, 3, 4, 5, 7] (by decide) rfl) hS (lv_sub hl [1, 2, 0] rfl)
            · have hP : va_P (dC, dI) classes [(ln, .inr (4, [ln_at, .ref llA, ln_change, ln_place, ln_up, ln_down, ln_ofFile, ln_total])), (llA, .inl (cI, 4000, .inl S.ll)), (trA, .inl (cI, 400, .inl rw9)), (goA, .inl (cI, 400, .inl (upd go s9 1))), (odA, .inl (cI, 400, .inl (upd od le (nI x1)))), (waA, .inl (cI, 400, .inl (wtU re go wt s9 i))), (h, .inr (10, [.ref odA, .int (nI (le + 1)), .int (nI (zs + n1)), tx_unsure, tx_stranded, tx_dead, tx_stock, tx_changes, .ref ln, tx_loaded, tx_version, tx_loadedFile, .ref trA, tx_slots, .int (nI nn), .ref reA, tx_deleters, .ref goA, .ref waA])), (reA, .inl (cL, 2800, .inr (.inl re)))] H := hP
              have hD : va_D A [(ln, .inr (4, [ln_at, .ref llA, ln_change, ln_place, ln_up, ln_down, ln_ofFile, ln_total])), (llA, .inl (cI, 4000, .inl S.ll)), (trA, .inl (cI, 400, .inl rw9)), (goA, .inl (cI, 400, .inl (upd go s9 1))), (odA, .inl (cI, 400, .inl (upd od le (nI x1)))), (waA, .inl (cI, 400, .inl (wtU re go wt s9 i))), (h, .inr (10, [.ref odA, .int (nI (le + 1)), .int (nI (zs + n1)), tx_unsure, tx_stranded, tx_dead, tx_stock, tx_changes, .ref ln, tx_loaded, tx_version, tx_loadedFile, .ref trA, tx_slots, .int (nI nn), .ref reA, tx_deleters, .ref goA, .ref waA])), (reA, .inl (cL, 2800, .inr (.inl re)))] := hD
              refine lv_if_ne (tgt := 102) hx hb d_Tx_takeSlot_89 (by decide) (fun c_89 => absurd c_89 (by decide)) (fun _ => ?_)
              refine lv_aload_n hx hb d_Tx_takeSlot_92 rfl (lv_at hl 0 rfl) ?_
              refine va_get (D := (dC, dI)) (ci := 10) (v := .ref waA) (C := R_Tx) (T := F_Tx) (N := 19) hx hb hts i_Tx hown hK hP 6 rfl rfl 18 (by decide) (hts _ gw_400) (fun _ h9 => h9) rfl d_Tx_takeSlot_93 ?_
              refine lv_iload_n hx hb d_Tx_takeSlot_96 rfl (lv_at hl 2 rfl) ?_
              refine lv_dup2_11 hx hb d_Tx_takeSlot_97 rfl rfl ?_
              refine va_iald hx hb hK hP 5 0 rfl rfl (vp_in_nI (by omega) (by omega)) d_Tx_takeSlot_98 ?_
              rw [show (nI i).toNatClampNeg = i from nI_clamp (by omega)]
              refine lv_iconst (v := 1) hx hb d_Tx_takeSlot_99 (by decide) ?_
              refine lv_isub hx hb d_Tx_takeSlot_100 ?_
              refine va_iast hx hb hK hP hD hS 5 0 rfl rfl (vp_in_nI (by omega) (by omega)) d_Tx_takeSlot_101 (fun H locs hP hD hS => ?_)
              rw [show (nI i).toNatClampNeg = i from nI_clamp (by omega)] at hP hD
              have hP : va_P (dC, dI) classes [(ln, .inr (4, [ln_at, .ref llA, ln_change, ln_place, ln_up, ln_down, ln_ofFile, ln_total])), (llA, .inl (cI, 4000, .inl S.ll)), (trA, .inl (cI, 400, .inl rw9)), (goA, .inl (cI, 400, .inl (upd go s9 1))), (odA, .inl (cI, 400, .inl (upd od le (nI x1)))), (waA, .inl (cI, 400, .inl (upd (wtU re go wt s9 i) i (((wtU re go wt s9 i) i) - 1)))), (h, .inr (10, [.ref odA, .int (nI (le + 1)), .int (nI (zs + n1)), tx_unsure, tx_stranded, tx_dead, tx_stock, tx_changes, .ref ln, tx_loaded, tx_version, tx_loadedFile, .ref trA, tx_slots, .int (nI nn), .ref reA, tx_deleters, .ref goA, .ref waA])), (reA, .inl (cL, 2800, .inr (.inl re)))] H := hP
              have hD : va_D A [(ln, .inr (4, [ln_at, .ref llA, ln_change, ln_place, ln_up, ln_down, ln_ofFile, ln_total])), (llA, .inl (cI, 4000, .inl S.ll)), (trA, .inl (cI, 400, .inl rw9)), (goA, .inl (cI, 400, .inl (upd go s9 1))), (odA, .inl (cI, 400, .inl (upd od le (nI x1)))), (waA, .inl (cI, 400, .inl (upd (wtU re go wt s9 i) i (((wtU re go wt s9 i) i) - 1)))), (h, .inr (10, [.ref odA, .int (nI (le + 1)), .int (nI (zs + n1)), tx_unsure, tx_stranded, tx_dead, tx_stock, tx_changes, .ref ln, tx_loaded, tx_version, tx_loadedFile, .ref trA, tx_slots, .int (nI nn), .ref reA, tx_deleters, .ref goA, .ref waA])), (reA, .inl (cL, 2800, .inr (.inl re)))] := hD
              rw [wtU_yes ⟨c_71, by unfold befB; rw [ha1, ha2]; rfl⟩] at hP hD
              refine lv_iinc (v := nI (i + 1)) (lv' := [(2, .int (nI (i + 1))), (0, .ref h), (1, .int (nI s9))]) hx hb d_Tx_takeSlot_102 hl (k := 2) rfl (by exact nI_add _ _) (by decide) rfl (fun ls hl => ?_)
              refine lv_goto (tgt := 57) hx hb d_Tx_takeSlot_105 (by decide) ?_
              exact ih_57 (i + 1) _ _ _ (by omega) (by omega) (hP.sub [6, 0, 1, 2, 3, 4, 5, 7] rfl) (hD.sub [6, 0, 1, 2, 3, 4, 5, 7] (by decide) rfl) hS (lv_sub hl [1, 2, 0] rfl)
          · have hP : va_P (dC, dI) classes [(ln, .inr (4, [ln_at, .ref llA, ln_change, ln_place, ln_up, ln_down, ln_ofFile, ln_total])), (llA, .inl (cI, 4000, .inl S.ll)), (trA, .inl (cI, 400, .inl rw9)), (goA, .inl (cI, 400, .inl (upd go s9 1))), (odA, .inl (cI, 400, .inl (upd od le (nI x1)))), (waA, .inl (cI, 400, .inl (wtU re go wt s9 i))), (h, .inr (10, [.ref odA, .int (nI (le + 1)), .int (nI (zs + n1)), tx_unsure, tx_stranded, tx_dead, tx_stock, tx_changes, .ref ln, tx_loaded, tx_version, tx_loadedFile, .ref trA, tx_slots, .int (nI nn), .ref reA, tx_deleters, .ref goA, .ref waA])), (reA, .inl (cL, 2800, .inr (.inl re)))] H := hP
            have hD : va_D A [(ln, .inr (4, [ln_at, .ref llA, ln_change, ln_place, ln_up, ln_down, ln_ofFile, ln_total])), (llA, .inl (cI, 4000, .inl S.ll)), (trA, .inl (cI, 400, .inl rw9)), (goA, .inl (cI, 400, .inl (upd go s9 1))), (odA, .inl (cI, 400, .inl (upd od le (nI x1)))), (waA, .inl (cI, 400, .inl (wtU re go wt s9 i))), (h, .inr (10, [.ref odA, .int (nI (le + 1)), .int (nI (zs + n1)), tx_unsure, tx_stranded, tx_dead, tx_stock, tx_changes, .ref ln, tx_loaded, tx_version, tx_loadedFile, .ref trA, tx_slots, .int (nI nn), .ref reA, tx_deleters, .ref goA, .ref waA])), (reA, .inl (cL, 2800, .inr (.inl re)))] := hD
            refine lv_if_eq (tgt := 102) hx hb d_Tx_takeSlot_80 (by decide) (fun _ => ?_) (fun c_80 => absurd (by decide) c_80)
            rw [wtU_no (re := re) (go := go) (wt := wt) (s := s9) (o := i) (fun z => by have z2 := z.2; unfold befB at z2; rw [ha1] at z2; simp at z2)] at hP hD
            refine lv_iinc (v := nI (i + 1)) (lv' := [(2, .int (nI (i + 1))), (0, .ref h), (1, .int (nI s9))]) hx hb d_Tx_takeSlot_102 hl (k := 2) rfl (by exact nI_add _ _) (by decide) rfl (fun ls hl => ?_)
            refine lv_goto (tgt := 57) hx hb d_Tx_takeSlot_105 (by decide) ?_
            exact ih_57 (i + 1) _ _ _ (by omega) (by omega) (hP.sub [6, 0, 1, 2, 3, 4, 5, 7] rfl) (hD.sub [6, 0, 1, 2, 3, 4, 5, 7] (by decide) rfl) hS (lv_sub hl [1, 2, 0] rfl)
  exact loop_57 _ 0 _ _ _ (Nat.lt_succ_self _) (Nat.zero_le _) hP hD hS (lv_sub hl [1, 2, 0] rfl)
