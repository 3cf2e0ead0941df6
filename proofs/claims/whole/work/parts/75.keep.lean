/-! 75.keep.lean.txt -/
theorem gw_971 : (Jvm.Cond.methodLink "PatchStore$Stock" (119 : Nat) ({ cls := "PatchStore$Stock", name := "leans", desc := "(II)Z" } : Jvm.MethodName)) ∈ xg_1 := xg_s5 11 rfl rfl
theorem gw_972 : (Jvm.Cond.instanceMethod ({ cls := "PatchStore$Stock", name := "leans", desc := "(II)Z" } : Jvm.MethodName)) ∈ xg_1 := xg_s5 12 rfl rfl
theorem gw_973 : (Jvm.Cond.selects "PatchStore$Stock" ({ cls := "PatchStore$Stock", name := "leans", desc := "(II)Z" } : Jvm.MethodName) ({ cls := "PatchStore$Stock", name := "leans", desc := "(II)Z" } : Jvm.MethodName)) ∈ xg_1 := xg_s5 13 rfl rfl
theorem gw_974 : (Jvm.Cond.code ({ cls := "PatchStore$Stock", name := "leans", desc := "(II)Z" } : Jvm.MethodName) prog_10_method_16_code (3 : Nat) (Option.some Jvm.ClassFile.FieldType.boolean)) ∈ xg_1 := xg_s5 14 rfl rfl
def y_St_keep : MethodName := ⟨"PatchStore$Stock", "keep", "()V"⟩
abbrev c_St_keep : Cond := (Jvm.Cond.code ({ cls := "PatchStore$Stock", name := "keep", desc := "()V" } : Jvm.MethodName) prog_10_method_18_code (7 : Nat) (Option.none : Option Jvm.ClassFile.FieldType))
abbrev ws_St_keep : List Cond := c_St_keep :: xg_1
theorem d_St_keep_0 : decode prog_10_method_18_code 0 = .ok (.aload_n 0, 1) := by decide +kernel
theorem d_St_keep_1 : decode prog_10_method_18_code 1 = .ok (.getfield 56, 3) := by decide +kernel
theorem d_St_keep_4 : decode prog_10_method_18_code 4 = .ok (.istore_n 1, 1) := by decide +kernel
theorem d_St_keep_5 : decode prog_10_method_18_code 5 = .ok (.aload_n 0, 1) := by decide +kernel
theorem d_St_keep_6 : decode prog_10_method_18_code 6 = .ok (.aload_n 0, 1) := by decide +kernel
theorem d_St_keep_7 : decode prog_10_method_18_code 7 = .ok (.getfield 29, 3) := by decide +kernel
theorem d_St_keep_10 : decode prog_10_method_18_code 10 = .ok (.iload_n 1, 1) := by decide +kernel
theorem d_St_keep_11 : decode prog_10_method_18_code 11 = .ok (.bipush 32, 2) := by decide +kernel
theorem d_St_keep_13 : decode prog_10_method_18_code 13 = .ok (.imul, 1) := by decide +kernel
theorem d_St_keep_14 : decode prog_10_method_18_code 14 = .ok (.invokevirtual 109, 3) := by decide +kernel
theorem d_St_keep_17 : decode prog_10_method_18_code 17 = .ok (.istore_n 2, 1) := by decide +kernel
theorem d_St_keep_18 : decode prog_10_method_18_code 18 = .ok (.aload_n 0, 1) := by decide +kernel
theorem d_St_keep_19 : decode prog_10_method_18_code 19 = .ok (.getfield 32, 3) := by decide +kernel
theorem d_St_keep_22 : decode prog_10_method_18_code 22 = .ok (.iload_n 2, 1) := by decide +kernel
theorem d_St_keep_23 : decode prog_10_method_18_code 23 = .ok (.aload_n 0, 1) := by decide +kernel
theorem d_St_keep_24 : decode prog_10_method_18_code 24 = .ok (.getfield 32, 3) := by decide +kernel
theorem d_St_keep_27 : decode prog_10_method_18_code 27 = .ok (.iload_n 2, 1) := by decide +kernel
theorem d_St_keep_28 : decode prog_10_method_18_code 28 = .ok (.iconst 1, 1) := by decide +kernel
theorem d_St_keep_29 : decode prog_10_method_18_code 29 = .ok (.iadd, 1) := by decide +kernel
theorem d_St_keep_30 : decode prog_10_method_18_code 30 = .ok (.aload_n 0, 1) := by decide +kernel
theorem d_St_keep_31 : decode prog_10_method_18_code 31 = .ok (.getfield 56, 3) := by decide +kernel
theorem d_St_keep_34 : decode prog_10_method_18_code 34 = .ok (.iload_n 2, 1) := by decide +kernel
theorem d_St_keep_35 : decode prog_10_method_18_code 35 = .ok (.isub, 1) := by decide +kernel
theorem d_St_keep_36 : decode prog_10_method_18_code 36 = .ok (.invokestatic 60, 3) := by decide +kernel
theorem d_St_keep_39 : decode prog_10_method_18_code 39 = .ok (.aload_n 0, 1) := by decide +kernel
theorem d_St_keep_40 : decode prog_10_method_18_code 40 = .ok (.getfield 32, 3) := by decide +kernel
theorem d_St_keep_43 : decode prog_10_method_18_code 43 = .ok (.iload_n 2, 1) := by decide +kernel
theorem d_St_keep_44 : decode prog_10_method_18_code 44 = .ok (.iload_n 1, 1) := by decide +kernel
theorem d_St_keep_45 : decode prog_10_method_18_code 45 = .ok (.iastore, 1) := by decide +kernel
theorem d_St_keep_46 : decode prog_10_method_18_code 46 = .ok (.iload_n 1, 1) := by decide +kernel
theorem d_St_keep_47 : decode prog_10_method_18_code 47 = .ok (.bipush 8, 2) := by decide +kernel
theorem d_St_keep_49 : decode prog_10_method_18_code 49 = .ok (.imul, 1) := by decide +kernel
theorem d_St_keep_50 : decode prog_10_method_18_code 50 = .ok (.istore_n 3, 1) := by decide +kernel
theorem d_St_keep_51 : decode prog_10_method_18_code 51 = .ok (.aload_n 0, 1) := by decide +kernel
theorem d_St_keep_52 : decode prog_10_method_18_code 52 = .ok (.getfield 20, 3) := by decide +kernel
theorem d_St_keep_55 : decode prog_10_method_18_code 55 = .ok (.iload_n 1, 1) := by decide +kernel
theorem d_St_keep_56 : decode prog_10_method_18_code 56 = .ok (.iaload, 1) := by decide +kernel
theorem d_St_keep_57 : decode prog_10_method_18_code 57 = .ok (.istore 4, 2) := by decide +kernel
theorem d_St_keep_59 : decode prog_10_method_18_code 59 = .ok (.iload 4, 2) := by decide +kernel
theorem d_St_keep_61 : decode prog_10_method_18_code 61 = .ok (.aload_n 0, 1) := by decide +kernel
theorem d_St_keep_62 : decode prog_10_method_18_code 62 = .ok (.getfield 20, 3) := by decide +kernel
theorem d_St_keep_65 : decode prog_10_method_18_code 65 = .ok (.iload_n 1, 1) := by decide +kernel
theorem d_St_keep_66 : decode prog_10_method_18_code 66 = .ok (.iconst 1, 1) := by decide +kernel
theorem d_St_keep_67 : decode prog_10_method_18_code 67 = .ok (.iadd, 1) := by decide +kernel
theorem d_St_keep_68 : decode prog_10_method_18_code 68 = .ok (.iaload, 1) := by decide +kernel
theorem d_St_keep_69 : decode prog_10_method_18_code 69 = .ok (.if_icmp .ge 81, 3) := by decide +kernel
theorem d_St_keep_72 : decode prog_10_method_18_code 72 = .ok (.aload_n 0, 1) := by decide +kernel
theorem d_St_keep_73 : decode prog_10_method_18_code 73 = .ok (.getfield 26, 3) := by decide +kernel
theorem d_St_keep_76 : decode prog_10_method_18_code 76 = .ok (.iload 4, 2) := by decide +kernel
theorem d_St_keep_78 : decode prog_10_method_18_code 78 = .ok (.iaload, 1) := by decide +kernel
theorem d_St_keep_79 : decode prog_10_method_18_code 79 = .ok (.istore 5, 2) := by decide +kernel
theorem d_St_keep_81 : decode prog_10_method_18_code 81 = .ok (.iconst 0, 1) := by decide +kernel
theorem d_St_keep_82 : decode prog_10_method_18_code 82 = .ok (.istore 6, 2) := by decide +kernel
theorem d_St_keep_84 : decode prog_10_method_18_code 84 = .ok (.iload 6, 2) := by decide +kernel
theorem d_St_keep_86 : decode prog_10_method_18_code 86 = .ok (.bipush 8, 2) := by decide +kernel
theorem d_St_keep_88 : decode prog_10_method_18_code 88 = .ok (.if_icmp .ge 34, 3) := by decide +kernel
theorem d_St_keep_91 : decode prog_10_method_18_code 91 = .ok (.aload_n 0, 1) := by decide +kernel
theorem d_St_keep_92 : decode prog_10_method_18_code 92 = .ok (.getfield 35, 3) := by decide +kernel
theorem d_St_keep_95 : decode prog_10_method_18_code 95 = .ok (.iload_n 3, 1) := by decide +kernel
theorem d_St_keep_96 : decode prog_10_method_18_code 96 = .ok (.iload 6, 2) := by decide +kernel
theorem d_St_keep_98 : decode prog_10_method_18_code 98 = .ok (.iadd, 1) := by decide +kernel
theorem d_St_keep_99 : decode prog_10_method_18_code 99 = .ok (.dup2, 1) := by decide +kernel
theorem d_St_keep_100 : decode prog_10_method_18_code 100 = .ok (.laload, 1) := by decide +kernel
theorem d_St_keep_101 : decode prog_10_method_18_code 101 = .ok (.aload_n 0, 1) := by decide +kernel
theorem d_St_keep_102 : decode prog_10_method_18_code 102 = .ok (.getfield 35, 3) := by decide +kernel
theorem d_St_keep_105 : decode prog_10_method_18_code 105 = .ok (.iload 5, 2) := by decide +kernel
theorem d_St_keep_107 : decode prog_10_method_18_code 107 = .ok (.bipush 8, 2) := by decide +kernel
theorem d_St_keep_109 : decode prog_10_method_18_code 109 = .ok (.imul, 1) := by decide +kernel
theorem d_St_keep_110 : decode prog_10_method_18_code 110 = .ok (.iload 6, 2) := by decide +kernel
theorem d_St_keep_112 : decode prog_10_method_18_code 112 = .ok (.iadd, 1) := by decide +kernel
theorem d_St_keep_113 : decode prog_10_method_18_code 113 = .ok (.laload, 1) := by decide +kernel
theorem d_St_keep_114 : decode prog_10_method_18_code 114 = .ok (.lor, 1) := by decide +kernel
theorem d_St_keep_115 : decode prog_10_method_18_code 115 = .ok (.lastore, 1) := by decide +kernel
theorem d_St_keep_116 : decode prog_10_method_18_code 116 = .ok (.iinc 6 1, 3) := by decide +kernel
theorem d_St_keep_119 : decode prog_10_method_18_code 119 = .ok (.goto (-35), 3) := by decide +kernel
theorem d_St_keep_122 : decode prog_10_method_18_code 122 = .ok (.aload_n 0, 1) := by decide +kernel
theorem d_St_keep_123 : decode prog_10_method_18_code 123 = .ok (.getfield 35, 3) := by decide +kernel
theorem d_St_keep_126 : decode prog_10_method_18_code 126 = .ok (.iload_n 3, 1) := by decide +kernel
theorem d_St_keep_127 : decode prog_10_method_18_code 127 = .ok (.iload 5, 2) := by decide +kernel
theorem d_St_keep_129 : decode prog_10_method_18_code 129 = .ok (.bipush 6, 2) := by decide +kernel
theorem d_St_keep_131 : decode prog_10_method_18_code 131 = .ok (.ishr, 1) := by decide +kernel
theorem d_St_keep_132 : decode prog_10_method_18_code 132 = .ok (.iadd, 1) := by decide +kernel
theorem d_St_keep_133 : decode prog_10_method_18_code 133 = .ok (.dup2, 1) := by decide +kernel
theorem d_St_keep_134 : decode prog_10_method_18_code 134 = .ok (.laload, 1) := by decide +kernel
theorem d_St_keep_135 : decode prog_10_method_18_code 135 = .ok (.lconst 1, 1) := by decide +kernel
theorem d_St_keep_136 : decode prog_10_method_18_code 136 = .ok (.iload 5, 2) := by decide +kernel
theorem d_St_keep_138 : decode prog_10_method_18_code 138 = .ok (.bipush 63, 2) := by decide +kernel
theorem d_St_keep_140 : decode prog_10_method_18_code 140 = .ok (.iand, 1) := by decide +kernel
theorem d_St_keep_141 : decode prog_10_method_18_code 141 = .ok (.lshl, 1) := by decide +kernel
theorem d_St_keep_142 : decode prog_10_method_18_code 142 = .ok (.lor, 1) := by decide +kernel
theorem d_St_keep_143 : decode prog_10_method_18_code 143 = .ok (.lastore, 1) := by decide +kernel
theorem d_St_keep_144 : decode prog_10_method_18_code 144 = .ok (.iinc 4 1, 3) := by decide +kernel
theorem d_St_keep_147 : decode prog_10_method_18_code 147 = .ok (.goto (-88), 3) := by decide +kernel
theorem d_St_keep_150 : decode prog_10_method_18_code 150 = .ok (.iconst 0, 1) := by decide +kernel
theorem d_St_keep_151 : decode prog_10_method_18_code 151 = .ok (.istore 4, 2) := by decide +kernel
theorem d_St_keep_153 : decode prog_10_method_18_code 153 = .ok (.iload 4, 2) := by decide +kernel
theorem d_St_keep_155 : decode prog_10_method_18_code 155 = .ok (.iload_n 1, 1) := by decide +kernel
theorem d_St_keep_156 : decode prog_10_method_18_code 156 = .ok (.if_icmp .ge 43, 3) := by decide +kernel
theorem d_St_keep_159 : decode prog_10_method_18_code 159 = .ok (.aload_n 0, 1) := by decide +kernel
theorem d_St_keep_160 : decode prog_10_method_18_code 160 = .ok (.iload_n 1, 1) := by decide +kernel
theorem d_St_keep_161 : decode prog_10_method_18_code 161 = .ok (.iload 4, 2) := by decide +kernel
theorem d_St_keep_163 : decode prog_10_method_18_code 163 = .ok (.invokevirtual 119, 3) := by decide +kernel
theorem d_St_keep_166 : decode prog_10_method_18_code 166 = .ok (.ifCond .eq 27, 3) := by decide +kernel
theorem d_St_keep_169 : decode prog_10_method_18_code 169 = .ok (.aload_n 0, 1) := by decide +kernel
theorem d_St_keep_170 : decode prog_10_method_18_code 170 = .ok (.getfield 39, 3) := by decide +kernel
theorem d_St_keep_173 : decode prog_10_method_18_code 173 = .ok (.iload 4, 2) := by decide +kernel
theorem d_St_keep_175 : decode prog_10_method_18_code 175 = .ok (.bipush 8, 2) := by decide +kernel
theorem d_St_keep_177 : decode prog_10_method_18_code 177 = .ok (.imul, 1) := by decide +kernel
theorem d_St_keep_178 : decode prog_10_method_18_code 178 = .ok (.iload_n 1, 1) := by decide +kernel
theorem d_St_keep_179 : decode prog_10_method_18_code 179 = .ok (.bipush 6, 2) := by decide +kernel
theorem d_St_keep_181 : decode prog_10_method_18_code 181 = .ok (.ishr, 1) := by decide +kernel
theorem d_St_keep_182 : decode prog_10_method_18_code 182 = .ok (.iadd, 1) := by decide +kernel
theorem d_St_keep_183 : decode prog_10_method_18_code 183 = .ok (.dup2, 1) := by decide +kernel
theorem d_St_keep_184 : decode prog_10_method_18_code 184 = .ok (.laload, 1) := by decide +kernel
theorem d_St_keep_185 : decode prog_10_method_18_code 185 = .ok (.lconst 1, 1) := by decide +kernel
theorem d_St_keep_186 : decode prog_10_method_18_code 186 = .ok (.iload_n 1, 1) := by decide +kernel
theorem d_St_keep_187 : decode prog_10_method_18_code 187 = .ok (.bipush 63, 2) := by decide +kernel
theorem d_St_keep_189 : decode prog_10_method_18_code 189 = .ok (.iand, 1) := by decide +kernel
theorem d_St_keep_190 : decode prog_10_method_18_code 190 = .ok (.lshl, 1) := by decide +kernel
theorem d_St_keep_191 : decode prog_10_method_18_code 191 = .ok (.lor, 1) := by decide +kernel
theorem d_St_keep_192 : decode prog_10_method_18_code 192 = .ok (.lastore, 1) := by decide +kernel
theorem d_St_keep_193 : decode prog_10_method_18_code 193 = .ok (.iinc 4 1, 3) := by decide +kernel
theorem d_St_keep_196 : decode prog_10_method_18_code 196 = .ok (.goto (-43), 3) := by decide +kernel
theorem d_St_keep_199 : decode prog_10_method_18_code 199 = .ok (.aload_n 0, 1) := by decide +kernel
theorem d_St_keep_200 : decode prog_10_method_18_code 200 = .ok (.dup, 1) := by decide +kernel
theorem d_St_keep_201 : decode prog_10_method_18_code 201 = .ok (.getfield 56, 3) := by decide +kernel
theorem d_St_keep_204 : decode prog_10_method_18_code 204 = .ok (.iconst 1, 1) := by decide +kernel
theorem d_St_keep_205 : decode prog_10_method_18_code 205 = .ok (.iadd, 1) := by decide +kernel
theorem d_St_keep_206 : decode prog_10_method_18_code 206 = .ok (.putfield 56, 3) := by decide +kernel
theorem d_St_keep_209 : decode prog_10_method_18_code 209 = .ok (.return_, 1) := by decide +kernel
/-- the bit of n in its word -/
def bit1 (n : Nat) : Int64 := (1 : Int64) <<< ((nI (n % 64)).toInt64 &&& 63)
/-- the row with n put in -/
def btr_in (w : Nat → Int64) (o n : Nat) : Nat → Int64 := vp_updL w (o + n / 64) (w (o + n / 64) ||| bit1 n)
theorem btr_in_at (w : Nat → Int64) (o n k : Nat) : btr (btr_in w o n) o k = (btr w o k || decide (k = n)) := by
  unfold btr btr_in vp_updL bit1
  by_cases h : k / 64 = n / 64
  · rw [if_pos (by rw [h]), ← h, bt_or _ _ (Nat.mod_lt _ (by decide))]
    congr 1
    by_cases e : k = n
    · subst e; simp
    · have : ¬ k % 64 = n % 64 := by omega
      simp [e, this]
  · rw [if_neg (by omega)]
    have : ¬ k = n := fun e => h (by rw [e])
    simp [this]
theorem btr_in_out (w : Nat → Int64) {o n k : Nat} (h : ¬ k = o + n / 64) : btr_in w o n k = w k := if_neg h
theorem btr_orw {w x y : Nat → Int64} {o o2 : Nat} (h : ∀ k, k < 8 → w (o + k) = x (o + k) ||| y (o2 + k)) (n : Nat) (hn : n < 512) : btr w o n = (btr x o n || btr y o2 n) := by
  unfold btr
  rw [h (n / 64) (by omega), Int64.toBitVec_or, BitVec.getLsbD_or]
/-- what patch P leans on: its first i dependencies and what these lean on -/
def lnO (lo lou : Nat → Int64) (DP : Nat → Nat) (P i : Nat) : Prop := (∀ k, k < P * 8 ∨ P * 8 + 8 ≤ k → lou k = lo k) ∧ ∀ n, n < 512 → (btr lou (P * 8) n = true ↔ btr lo (P * 8) n = true ∨ ∃ q, q < i ∧ (n = DP q ∨ btr lo (DP q * 8) n = true))
theorem lnO.step {lo lou lov : Nat → Int64} {DP : Nat → Nat} {P i : Nat} (h : lnO lo lou DP P i) (hd : DP i < P) (hP : P < 500) (h1 : ∀ k, k < P * 8 ∨ P * 8 + 8 ≤ k → lov k = lo k) (h2 : ∀ k, k < 8 → lov (P * 8 + k) = lou (P * 8 + k) ||| lo (DP i * 8 + k)) : lnO lo (btr_in lov (P * 8) (DP i)) DP P (i + 1) := by
  constructor
  · intro k hk
    rw [btr_in_out _ (by omega)]
    exact h1 k hk
  · intro n hn
    rw [btr_in_at, Bool.or_eq_true, btr_orw h2 n hn, Bool.or_eq_true, h.2 n hn, decide_eq_true_iff]
    constructor
    · rintro (((a | ⟨q, a, b⟩) | a) | a)
      · exact Or.inl a
      · exact Or.inr ⟨q, by omega, b⟩
      · exact Or.inr ⟨i, by omega, Or.inr a⟩
      · exact Or.inr ⟨i, by omega, Or.inl a⟩
    · rintro (a | ⟨q, a, b⟩)
      · exact Or.inl (Or.inl (Or.inl a))
      · by_cases e : q = i
        · subst e
          rcases b with b | b
          · exact Or.inr b
          · exact Or.inl (Or.inr b)
        · exact Or.inl (Or.inl (Or.inr ⟨q, by omega, b⟩))
/-- the words of what is leant by: P leans on those of the first n that its row says -/
def lbX (lb lo : Nat → Int64) (P n : Nat) : Nat → Int64 := fun k => if k % 8 = P / 64 ∧ k / 8 < n ∧ btr lo (P * 8) (k / 8) = true then lb k ||| bit1 P else lb k
theorem lbX_0 (lb lo : Nat → Int64) (P : Nat) : lbX lb lo P 0 = lb := by
  funext k
  unfold lbX
  rw [if_neg (by omega)]
theorem lbX_no {lb lo : Nat → Int64} {P n : Nat} (h : btr lo (P * 8) n = false) : lbX lb lo P (n + 1) = lbX lb lo P n := by
  funext k
  unfold lbX
  by_cases e : k / 8 = n
  · rw [if_neg (by rw [e, h]; simp), if_neg (by omega)]
  · by_cases z : k % 8 = P / 64 ∧ k / 8 < n ∧ btr lo (P * 8) (k / 8) = true
    · rw [if_pos z, if_pos ⟨z.1, by omega, z.2.2⟩]
    · rw [if_neg z, if_neg (fun y => z ⟨y.1, by omega, y.2.2⟩)]
theorem lbX_yes {lb lo : Nat → Int64} {P n : Nat} (hP : P < 500) (h : btr lo (P * 8) n = true) : lbX lb lo P (n + 1) = btr_in (lbX lb lo P n) (n * 8) P := by
  funext k
  unfold btr_in vp_updL
  by_cases e : k = n * 8 + P / 64
  · rw [if_pos e]
    have e1 : k % 8 = P / 64 := by omega
    have e2 : k / 8 = n := by omega
    unfold lbX
    rw [if_pos ⟨e1, by omega, by rw [e2]; exact h⟩, if_neg (by omega), e]
  · rw [if_neg e]
    unfold lbX
    by_cases e1 : k % 8 = P / 64
    · have e2 : ¬ k / 8 = n := by omega
      by_cases z : k % 8 = P / 64 ∧ k / 8 < n ∧ btr lo (P * 8) (k / 8) = true
      · rw [if_pos z, if_pos ⟨z.1, by omega, z.2.2⟩]
      · rw [if_neg z, if_neg (fun y => z ⟨y.1, by omega, y.2.2⟩)]
    · rw [if_neg (fun z => e1 z.1), if_neg (fun z => e1 z.1)]
theorem lbX_bit {lb lo : Nat → Int64} {P n q k : Nat} (hP : P < 500) (hk : k < 512) : btr (lbX lb lo P n) (q * 8) k = (btr lb (q * 8) k || (decide (k = P) && decide (q < n) && btr lo (P * 8) q)) := by
  have e1 : (q * 8 + k / 64) % 8 = k / 64 := by omega
  have e2 : (q * 8 + k / 64) / 8 = q := by omega
  unfold btr lbX
  rw [e1, e2]
  by_cases h : k / 64 = P / 64 ∧ q < n ∧ btr lo (P * 8) q = true
  · rw [if_pos h]
    unfold bit1
    rw [bt_or _ _ (Nat.mod_lt _ (by decide))]
    congr 1
    have h3 : (lo (P * 8 + q / 64)).toBitVec.getLsbD (q % 64) = true := h.2.2
    rw [h3]
    by_cases e : k = P
    · subst e; simp [h.2.1]
    · have : ¬ k % 64 = P % 64 := by omega
      simp [e, this]
  · rw [if_neg h]
    by_cases e : k = P
    · subst e
      have : ¬ (q < n ∧ (lo (k * 8 + q / 64)).toBitVec.getLsbD (q % 64) = true) := fun z => h ⟨rfl, z⟩
      by_cases z : q < n
      · have : (lo (k * 8 + q / 64)).toBitVec.getLsbD (q % 64) = false := by
          cases hz : (lo (k * 8 + q / 64)).toBitVec.getLsbD (q % 64)
          · rfl
          · exact absurd ⟨z, hz⟩ this
        simp [this]
      · simp [z]
    · simp [e]
theorem vpL_ne (g : Nat → Int64) {k j : Nat} {v : Int64} (h : ¬ j = k) : vp_updL g k v j = g j := if_neg h
theorem vpL_eq (g : Nat → Int64) (k : Nat) (v : Int64) : vp_updL g k v k = v := if_pos rfl
theorem lnO.zero (lo : Nat → Int64) (DP : Nat → Nat) (P : Nat) : lnO lo lo DP P 0 := ⟨fun _ _ => rfl, fun n _ => ⟨Or.inl, fun z => z.elim id (fun ⟨q, a, _⟩ => absurd a (Nat.not_lt_zero _))⟩⟩
theorem lnC {lo lou lov : Nat → Int64} {P d wd : Nat} (hA : ∀ k, k < P * 8 ∨ P * 8 + 8 ≤ k → lov k = lo k) (hd : d < P) (hwd : wd < 8) (h : ∀ k, k < 8 → lov (P * 8 + k) = if k < wd then lou (P * 8 + k) ||| lo (d * 8 + k) else lou (P * 8 + k)) : ∀ k, k < 8 → vp_updL lov (P * 8 + wd) (lov (P * 8 + wd) ||| lov (d * 8 + wd)) (P * 8 + k) = if k < wd + 1 then lou (P * 8 + k) ||| lo (d * 8 + k) else lou (P * 8 + k) := by
  intro k hk
  by_cases e : k = wd
  · subst e
    rw [vpL_eq, if_pos (by omega), h k hk, if_neg (by omega), hA (d * 8 + k) (by omega)]
  · rw [vpL_ne _ (by omega), h k hk]
    by_cases z : k < wd
    · rw [if_pos z, if_pos (by omega)]
    · rw [if_neg z, if_neg (by omega)]
set_option maxHeartbeats 4000000 in
set_option maxRecDepth 100000 in
/-- the candidate becomes a patch -/
theorem m_St_keep (l : Launch) (dC : Nat → ClassId) (dI : Nat → Nat → Nat) (cI cB cL cZ cR : ClassId) (h hs bh fdA dpA loA lbA : Nat) (sk_bytes sk_from sk_firstChange sk_changes sk_lines : Value) (hf bf fdf dpf : Nat → Int32) (lo lb : Nat → Int64) (Bh DP : Nat → Nat) (P D0 nd : Nat) (sz : Nat) (hP4 : P < 500) (gB : ∀ i, i < P → bf i = nI (Bh i) ∧ Bh i ≤ 500) (gM : ∀ i k, i ≤ k → k < P → hsl hf hf Bh (P * 32) k → hsl hf hf Bh (P * 32) i) (gE0 : fdf P = nI D0) (gE1 : fdf (P + 1) = nI (D0 + nd)) (hDr : D0 + nd ≤ 8400) (gD : ∀ i, i < nd → dpf (D0 + i) = nI (DP i) ∧ DP i < P) : Met l y_St_keep ws_St_keep ({ frames := 2, cells := 0, slots := 0, locals := 120 }) (xw_Pc dC dI [(cI, .int), (cB, .byte), (cL, .long), (cZ, .boolean), (cR, .object "PatchStore$Repository")] [.ref h] [(h, .inr (9, [sk_bytes, sk_from, .ref fdA, sk_firstChange, .ref dpA, .ref hs, .ref bh, .ref loA, .ref lbA, sk_changes, sk_lines, .int (nI P)])), (hs, .inl (cB, 16032, .inl hf)), (bh, .inl (cI, 500, .inl bf)), (fdA, .inl (cI, 502, .inl fdf)), (dpA, .inl (cI, 8400, .inl dpf)), (loA, .inl (cL, 4000, .inr (.inl lo))), (lbA, .inl (cL, 4000, .inr (.inl lb)))] sz) (va_Qv (fun u : (Nat → Int64) × Nat × (Nat → Int64) => lnO lo u.1 DP P nd ∧ rk_ok hf hf Bh P (P * 32) u.2.1 ∧ u.2.2 = lbX lb u.1 P P) (fun u t => xw_B dC dI [(cI, .int), (cB, .byte), (cL, .long), (cZ, .boolean), (cR, .object "PatchStore$Repository")] (va_A [(h, .inr (9, [sk_bytes, sk_from, .ref fdA, sk_firstChange, .ref dpA, .ref hs, .ref bh, .ref loA, .ref lbA, sk_changes, sk_lines, .int (nI P)])), (hs, .inl (cB, 16032, .inl hf)), (bh, .inl (cI, 500, .inl bf)), (fdA, .inl (cI, 502, .inl fdf)), (dpA, .inl (cI, 8400, .inl dpf)), (loA, .inl (cL, 4000, .inr (.inl lo))), (lbA, .inl (cL, 4000, .inr (.inl lb)))] sz) [(h, .inr (9, [sk_bytes, sk_from, .ref fdA, sk_firstChange, .ref dpA, .ref hs, .ref bh, .ref loA, .ref lbA, sk_changes, sk_lines, .int (nI (P + 1))])), (hs, .inl (cB, 16032, .inl hf)), (bh, .inl (cI, 500, .inl (upd (va_cpy bf bf u.2.1 (u.2.1 + 1) (P - u.2.1)) u.2.1 (nI P)))), (fdA, .inl (cI, 502, .inl fdf)), (dpA, .inl (cI, 8400, .inl dpf)), (loA, .inl (cL, 4000, .inr (.inl u.1))), (lbA, .inl (cL, 4000, .inr (.inl u.2.2)))] t) (va_A [(h, .inr (9, [sk_bytes, sk_from, .ref fdA, sk_firstChange, .ref dpA, .ref hs, .ref bh, .ref loA, .ref lbA, sk_changes, sk_lines, .int (nI P)])), (hs, .inl (cB, 16032, .inl hf)), (bh, .inl (cI, 500, .inl bf)), (fdA, .inl (cI, 502, .inl fdf)), (dpA, .inl (cI, 8400, .inl dpf)), (loA, .inl (cL, 4000, .inr (.inl lo))), (lbA, .inl (cL, 4000, .inr (.inl lb)))] sz)) 0 0 (va_A [(h, .inr (9, [sk_bytes, sk_from, .ref fdA, sk_firstChange, .ref dpA, .ref hs, .ref bh, .ref loA, .ref lbA, sk_changes, sk_lines, .int (nI P)])), (hs, .inl (cB, 16032, .inl hf)), (bh, .inl (cI, 500, .inl bf)), (fdA, .inl (cI, 502, .inl fdf)), (dpA, .inl (cI, 8400, .inl dpf)), (loA, .inl (cL, 4000, .inr (.inl lo))), (lbA, .inl (cL, 4000, .inr (.inl lb)))] sz) := by
  refine Met.ofW (cc := prog_10_method_18_code) (maxL := 7) (ret := none) (by decide) rfl ?_
  intro p e s m args below meth c s₁ B hml hv
  obtain ⟨rfl, hsz, hP, hK, hD0⟩ := hv
  have hx := B.exec
  have hb := B.bytes
  have hr := B.returns
  have hts0 := atoms_spec (ws := ws_St_keep) B.pre
  have hts : ∀ w ∈ xg_1, w.before _ s = true := fun w h => hts0 w (List.mem_cons_of_mem _ h)
  have hown : s.vm.findClass "PatchStore$Stock" = some m.cls := findClass_of_methodNamed B.named
  have hlocks := B.notSynchronized
  subst hsz
  have hD := hD0.self (sz := s.heap.size)
  generalize hAe : va_A [(h, .inr (9, [sk_bytes, sk_from, .ref fdA, sk_firstChange, .ref dpA, .ref hs, .ref bh, .ref loA, .ref lbA, sk_changes, sk_lines, .int (nI P)])), (hs, .inl (cB, 16032, .inl hf)), (bh, .inl (cI, 500, .inl bf)), (fdA, .inl (cI, 502, .inl fdf)), (dpA, .inl (cI, 8400, .inl dpf)), (loA, .inl (cL, 4000, .inr (.inl lo))), (lbA, .inl (cL, 4000, .inr (.inl lb)))] s.heap.size = A at hD ⊢
  have hA : ∀ q : Nat, s.heap.size ≤ q → A q := fun q h => by rw [← hAe]; exact Or.inr h
  have hS : va_S A s.heap s.heap [] := va_S.rf
  have hl := lv_entry ([.ref h]) (n := 7) (Nat.le_of_ble_eq_true rfl)
  rw [lg_entry_eq]
  generalize (lg_sl ([.ref h]) ++ List.replicate (7 - (lg_sl ([.ref h])).length) Slot.unset).toArray = ls at hl ⊢
  have hl : lv_has ls 7 [(0, .ref h)] := hl
  generalize hQe : MQ _ _ _ _ _ _ _ = Q
  refine lv_aload_n hx hb d_St_keep_0 rfl (lv_at hl 0 rfl) ?_
  refine va_get (D := (dC, dI)) (ci := 9) (v := .int (nI P)) (C := R_St) (T := F_St) (N := 12) hx hb hts i_St hown hK hP 0 rfl rfl 11 (by decide) (hts _ gw_235) (fun _ h9 => h9) rfl d_St_keep_1 ?_
  refine lv_istore_n (lv' := [(1, .int (nI P)), (0, .ref h)]) hx hb d_St_keep_4 rfl hl (by decide) rfl (fun ls hl => ?_)
  refine lv_aload_n hx hb d_St_keep_5 rfl (lv_at hl 1 rfl) ?_
  refine lv_aload_n hx hb d_St_keep_6 rfl (lv_at hl 1 rfl) ?_
  refine va_get (D := (dC, dI)) (ci := 9) (v := .ref hs) (C := R_St) (T := F_St) (N := 12) hx hb hts i_St hown hK hP 0 rfl rfl 5 (by decide) (hts _ gw_204) (fun _ h9 => h9) rfl d_St_keep_7 ?_
  refine lv_iload_n hx hb d_St_keep_10 rfl (lv_at hl 0 rfl) ?_
  refine lv_bipush (v := 32) hx hb d_St_keep_11 (by decide) ?_
  refine lv_imul hx hb d_St_keep_13 ?_
  refine lv_topi (fun x_1 ex_1 => ?_)
  obtain rfl : x_1 = nI (P * 32) := by rw [ex_1]; first | done | (exact nI_mul _ _)
  have hPc := hP.sub (ws' := [(h, .inr (9, [sk_bytes, sk_from, .ref fdA, sk_firstChange, .ref dpA, .ref hs, .ref bh, .ref loA, .ref lbA, sk_changes, sk_lines, .int (nI P)])), (hs, .inl (cB, 16032, .inl hf)), (bh, .inl (cI, 500, .inl bf))]) [0, 1, 2] rfl
  have hDc := hD.sub (ws' := [(h, .inr (9, [sk_bytes, sk_from, .ref fdA, sk_firstChange, .ref dpA, .ref hs, .ref bh, .ref loA, .ref lbA, sk_changes, sk_lines, .int (nI P)])), (hs, .inl (cB, 16032, .inl hf)), (bh, .inl (cI, 500, .inl bf))]) [0, 1, 2] (by decide) rfl
  have hFc := va_free (wc := [(h, .inr (9, [sk_bytes, sk_from, .ref fdA, sk_firstChange, .ref dpA, .ref hs, .ref bh, .ref loA, .ref lbA, sk_changes, sk_lines, .int (nI P)])), (hs, .inl (cB, 16032, .inl hf)), (bh, .inl (cI, 500, .inl bf))]) hD hS hA [0, 1, 2] rfl
  refine va_calli (va_runV (As := [.ref hs, .int (nI (P * 32))]) (rest := []) ⟨hx, hb, hml, hown, hts⟩ (m_St_ranks l dC dI cI cB cL cZ cR h hs bh (sk_bytes) (sk_from) (.ref fdA) (sk_firstChange) (.ref dpA) (.ref loA) (.ref lbA) (sk_changes) (sk_lines) P (P * 32) hf bf Bh s.heap.size (by omega) gB gM (by omega)) (cwV 2 hts (xg_V gw_820 gw_821 gw_822 gw_3 gw_823) rfl rfl rfl (by decide +kernel) ⟨Nat.le_of_ble_eq_true rfl, Nat.le_of_ble_eq_true rfl⟩) ⟨xw_blind, va_recv hK hPc (ci := 9) (q0 := 0) rfl rfl, fun U hU hW => ⟨rfl, by rw [hU], by rw [hU]; exact hPc, va_K.moved hW.alike hK, hDc.weaken (fun _ _ _ _ => trivial)⟩⟩ rfl rfl hl.1 rfl (lv_room (Nat.le_of_ble_eq_true rfl)) d_St_keep_14 ⟨Nat.le_of_ble_eq_true rfl, Nat.le_of_ble_eq_true rfl⟩) hS (fun q _ h => hFc q h) hFc (fun r9 rk t H1 locs ht hvm hw hB hz1 hk1 hS => ?_)
  obtain ⟨hP1, hK1, hD1⟩ := hB
  rw [ht] at hP1
  obtain ⟨hP, hD⟩ := va_join (wr := [(fdA, .inl (cI, 502, .inl fdf)), (dpA, .inl (cI, 8400, .inl dpf)), (loA, .inl (cL, 4000, .inr (.inl lo))), (lbA, .inl (cL, 4000, .inr (.inl lb)))]) (w1 := [(h, .inr (9, [sk_bytes, sk_from, .ref fdA, sk_firstChange, .ref dpA, .ref hs, .ref bh, .ref loA, .ref lbA, sk_changes, sk_lines, .int (nI P)])), (hs, .inl (cB, 16032, .inl hf)), (bh, .inl (cI, 500, .inl bf))]) hP hD [0, 1, 2] [3, 4, 5, 6] rfl rfl (by decide) (by decide) hk1 hFc hP1 hD1
  generalize H1 = H at hP hS ⊢
  have hP : va_P (dC, dI) classes [(fdA, .inl (cI, 502, .inl fdf)), (dpA, .inl (cI, 8400, .inl dpf)), (loA, .inl (cL, 4000, .inr (.inl lo))), (lbA, .inl (cL, 4000, .inr (.inl lb))), (h, .inr (9, [sk_bytes, sk_from, .ref fdA, sk_firstChange, .ref dpA, .ref hs, .ref bh, .ref loA, .ref lbA, sk_changes, sk_lines, .int (nI P)])), (hs, .inl (cB, 16032, .inl hf)), (bh, .inl (cI, 500, .inl bf))] H := hP
  have hD : va_D A [(fdA, .inl (cI, 502, .inl fdf)), (dpA, .inl (cI, 8400, .inl dpf)), (loA, .inl (cL, 4000, .inr (.inl lo))), (lbA, .inl (cL, 4000, .inr (.inl lb))), (h, .inr (9, [sk_bytes, sk_from, .ref fdA, sk_firstChange, .ref dpA, .ref hs, .ref bh, .ref loA, .ref lbA, sk_changes, sk_lines, .int (nI P)])), (hs, .inl (cB, 16032, .inl hf)), (bh, .inl (cI, 500, .inl bf))] := hD
  rcases hw with ⟨rfl, hrk⟩
  · have hP : va_P (dC, dI) classes [(fdA, .inl (cI, 502, .inl fdf)), (dpA, .inl (cI, 8400, .inl dpf)), (loA, .inl (cL, 4000, .inr (.inl lo))), (lbA, .inl (cL, 4000, .inr (.inl lb))), (h, .inr (9, [sk_bytes, sk_from, .ref fdA, sk_firstChange, .ref dpA, .ref hs, .ref bh, .ref loA, .ref lbA, sk_changes, sk_lines, .int (nI P)])), (hs, .inl (cB, 16032, .inl hf)), (bh, .inl (cI, 500, .inl bf))] H := hP
    have hD : va_D A [(fdA, .inl (cI, 502, .inl fdf)), (dpA, .inl (cI, 8400, .inl dpf)), (loA, .inl (cL, 4000, .inr (.inl lo))), (lbA, .inl (cL, 4000, .inr (.inl lb))), (h, .inr (9, [sk_bytes, sk_from, .ref fdA, sk_firstChange, .ref dpA, .ref hs, .ref bh, .ref loA, .ref lbA, sk_changes, sk_lines, .int (nI P)])), (hs, .inl (cB, 16032, .inl hf)), (bh, .inl (cI, 500, .inl bf))] := hD
    have hrk1 := hrk.1
    refine lv_istore_n (lv' := [(2, .int (nI rk)), (1, .int (nI P)), (0, .ref h)]) hx hb d_St_keep_17 rfl hl (by decide) rfl (fun ls hl => ?_)
    refine lv_aload_n hx hb d_St_keep_18 rfl (lv_at hl 2 rfl) ?_
    refine va_get (D := (dC, dI)) (ci := 9) (v := .ref bh) (C := R_St) (T := F_St) (N := 12) hx hb hts i_St hown hK hP 4 rfl rfl 6 (by decide) (hts _ gw_209) (fun _ h9 => h9) rfl d_St_keep_19 ?_
    refine lv_iload_n hx hb d_St_keep_22 rfl (lv_at hl 0 rfl) ?_
    refine lv_aload_n hx hb d_St_keep_23 rfl (lv_at hl 2 rfl) ?_
    refine va_get (D := (dC, dI)) (ci := 9) (v := .ref bh) (C := R_St) (T := F_St) (N := 12) hx hb hts i_St hown hK hP 4 rfl rfl 6 (by decide) (hts _ gw_209) (fun _ h9 => h9) rfl d_St_keep_24 ?_
    refine lv_iload_n hx hb d_St_keep_27 rfl (lv_at hl 0 rfl) ?_
    refine lv_iconst (v := 1) hx hb d_St_keep_28 (by decide) ?_
    refine lv_iadd hx hb d_St_keep_29 ?_
    refine lv_topi (fun x_2 ex_2 => ?_)
    obtain rfl : x_2 = nI (rk + 1) := by rw [ex_2]; first | done | (exact nI_add _ _)
    refine lv_aload_n hx hb d_St_keep_30 rfl (lv_at hl 2 rfl) ?_
    refine va_get (D := (dC, dI)) (ci := 9) (v := .int (nI P)) (C := R_St) (T := F_St) (N := 12) hx hb hts i_St hown hK hP 4 rfl rfl 11 (by decide) (hts _ gw_235) (fun _ h9 => h9) rfl d_St_keep_31 ?_
    refine lv_iload_n hx hb d_St_keep_34 rfl (lv_at hl 0 rfl) ?_
    refine lv_isub hx hb d_St_keep_35 ?_
    refine lv_topi (fun x_3 ex_3 => ?_)
    obtain rfl : x_3 = nI (P - rk) := by rw [ex_3]; first | done | (exact nI_subN hrk1)
    have cp1 : (nI rk).toNatClampNeg = rk := nI_clamp (by omega)
    have cp2 : (nI (rk + 1)).toNatClampNeg = (rk + 1) := nI_clamp (by omega)
    have cp3 : (nI (P - rk)).toNatClampNeg = (P - rk) := nI_clamp (by omega)
    refine va_copyi hx hb (by rw [hml, hl.1]) hown (hts _ gw_970) (hts _ gw_952) (hts _ gw_951) (hts _ gw_23) hK hP hD hS 6 6 0 0 rfl rfl rfl rfl rfl (nI_pos (by omega)) (nI_pos (by omega)) (nI_pos (by omega)) (by rw [cp1, cp3]; omega) (by rw [cp2, cp3]; omega) (by rw [cp1, cp3]; exact fun _ _ => rfl) (Nat.le_of_ble_eq_true rfl) (Nat.le_of_ble_eq_true rfl) d_St_keep_36 (fun H locs hP hD hS => ?_)
    rw [cp1, cp2, cp3] at hP hD
    have hP : va_P (dC, dI) classes [(fdA, .inl (cI, 502, .inl fdf)), (dpA, .inl (cI, 8400, .inl dpf)), (loA, .inl (cL, 4000, .inr (.inl lo))), (lbA, .inl (cL, 4000, .inr (.inl lb))), (h, .inr (9, [sk_bytes, sk_from, .ref fdA, sk_firstChange, .ref dpA, .ref hs, .ref bh, .ref loA, .ref lbA, sk_changes, sk_lines, .int (nI P)])), (hs, .inl (cB, 16032, .inl hf)), (bh, .inl (cI, 500, .inl (va_cpy bf bf rk (rk + 1) (P - rk))))] H := hP
    have hD : va_D A [(fdA, .inl (cI, 502, .inl fdf)), (dpA, .inl (cI, 8400, .inl dpf)), (loA, .inl (cL, 4000, .inr (.inl lo))), (lbA, .inl (cL, 4000, .inr (.inl lb))), (h, .inr (9, [sk_bytes, sk_from, .ref fdA, sk_firstChange, .ref dpA, .ref hs, .ref bh, .ref loA, .ref lbA, sk_changes, sk_lines, .int (nI P)])), (hs, .inl (cB, 16032, .inl hf)), (bh, .inl (cI, 500, .inl (va_cpy bf bf rk (rk + 1) (P - rk))))] := hD
    refine lv_aload_n hx hb d_St_keep_39 rfl (lv_at hl 2 rfl) ?_
    refine va_get (D := (dC, dI)) (ci := 9) (v := .ref bh) (C := R_St) (T := F_St) (N := 12) hx hb hts i_St hown hK hP 4 rfl rfl 6 (by decide) (hts _ gw_209) (fun _ h9 => h9) rfl d_St_keep_40 ?_
    refine lv_iload_n hx hb d_St_keep_43 rfl (lv_at hl 0 rfl) ?_
    refine lv_iload_n hx hb d_St_keep_44 rfl (lv_at hl 1 rfl) ?_
    refine va_iast hx hb hK hP hD hS 6 0 rfl rfl (vp_in_nI (by omega) (by omega)) d_St_keep_45 (fun H locs hP hD hS => ?_)
    rw [show (nI rk).toNatClampNeg = rk from nI_clamp (by omega)] at hP hD
    have hP : va_P (dC, dI) classes [(fdA, .inl (cI, 502, .inl fdf)), (dpA, .inl (cI, 8400, .inl dpf)), (loA, .inl (cL, 4000, .inr (.inl lo))), (lbA, .inl (cL, 4000, .inr (.inl lb))), (h, .inr (9, [sk_bytes, sk_from, .ref fdA, sk_firstChange, .ref dpA, .ref hs, .ref bh, .ref loA, .ref lbA, sk_changes, sk_lines, .int (nI P)])), (hs, .inl (cB, 16032, .inl hf)), (bh, .inl (cI, 500, .inl (upd (va_cpy bf bf rk (rk + 1) (P - rk)) rk (nI P))))] H := hP
    have hD : va_D A [(fdA, .inl (cI, 502, .inl fdf)), (dpA, .inl (cI, 8400, .inl dpf)), (loA, .inl (cL, 4000, .inr (.inl lo))), (lbA, .inl (cL, 4000, .inr (.inl lb))), (h, .inr (9, [sk_bytes, sk_from, .ref fdA, sk_firstChange, .ref dpA, .ref hs, .ref bh, .ref loA, .ref lbA, sk_changes, sk_lines, .int (nI P)])), (hs, .inl (cB, 16032, .inl hf)), (bh, .inl (cI, 500, .inl (upd (va_cpy bf bf rk (rk + 1) (P - rk)) rk (nI P))))] := hD
    refine lv_iload_n hx hb d_St_keep_46 rfl (lv_at hl 1 rfl) ?_
    refine lv_bipush (v := 8) hx hb d_St_keep_47 (by decide) ?_
    refine lv_imul hx hb d_St_keep_49 ?_
    refine lv_topi (fun x_4 ex_4 => ?_)
    obtain rfl : x_4 = nI (P * 8) := by rw [ex_4]; first | done | (exact nI_mul _ _)
    refine lv_istore_n (lv' := [(3, .int (nI (P * 8))), (2, .int (nI rk)), (1, .int (nI P)), (0, .ref h)]) hx hb d_St_keep_50 rfl hl (by decide) rfl (fun ls hl => ?_)
    refine lv_aload_n hx hb d_St_keep_51 rfl (lv_at hl 3 rfl) ?_
    refine va_get (D := (dC, dI)) (ci := 9) (v := .ref fdA) (C := R_St) (T := F_St) (N := 12) hx hb hts i_St hown hK hP 4 rfl rfl 2 (by decide) (hts _ gw_194) (fun _ h9 => h9) rfl d_St_keep_52 ?_
    refine lv_iload_n hx hb d_St_keep_55 rfl (lv_at hl 2 rfl) ?_
    refine va_iald hx hb hK hP 0 0 rfl rfl (vp_in_nI (by omega) (by omega)) d_St_keep_56 ?_
    rw [show (nI P).toNatClampNeg = P from nI_clamp (by omega)]
    refine lv_topi (fun x_5 ex_5 => ?_)
    obtain rfl : x_5 = nI D0 := by rw [ex_5]; first | done | (exact gE0)
    refine lv_istore (lv' := [(4, .int (nI D0)), (3, .int (nI (P * 8))), (2, .int (nI rk)), (1, .int (nI P)), (0, .ref h)]) hx hb d_St_keep_57 hl (by decide) rfl (fun ls hl => ?_)
    have loop_59 : ∀ (n9 : Nat) (i : Nat) (lou : Nat → Int64) (H : Heap) (locs : List Loc) (ls : Array Slot), nd - i < n9 → (i ≤ nd) → (lnO lo lou DP P i) → va_P (dC, dI) classes [(h, .inr (9, [sk_bytes, sk_from, .ref fdA, sk_firstChange, .ref dpA, .ref hs, .ref bh, .ref loA, .ref lbA, sk_changes, sk_lines, .int (nI P)])), (hs, .inl (cB, 16032, .inl hf)), (bh, .inl (cI, 500, .inl (upd (va_cpy bf bf rk (rk + 1) (P - rk)) rk (nI P)))), (fdA, .inl (cI, 502, .inl fdf)), (dpA, .inl (cI, 8400, .inl dpf)), (loA, .inl (cL, 4000, .inr (.inl lou))), (lbA, .inl (cL, 4000, .inr (.inl lb)))] H → va_D A [(h, .inr (9, [sk_bytes, sk_from, .ref fdA, sk_firstChange, .ref dpA, .ref hs, .ref bh, .ref loA, .ref lbA, sk_changes, sk_lines, .int (nI P)])), (hs, .inl (cB, 16032, .inl hf)), (bh, .inl (cI, 500, .inl (upd (va_cpy bf bf rk (rk + 1) (P - rk)) rk (nI P)))), (fdA, .inl (cI, 502, .inl fdf)), (dpA, .inl (cI, 8400, .inl dpf)), (loA, .inl (cL, 4000, .inr (.inl lou))), (lbA, .inl (cL, 4000, .inr (.inl lb)))] → va_S A s.heap H locs → lv_has ls 7 [(0, .ref h), (1, .int (nI P)), (2, .int (nI rk)), (3, .int (nI (P * 8))), (4, .int (nI (D0 + i)))] → W p l e (headSpec ws_St_keep ({ frames := 2, cells := 0, slots := 0, locals := 120 })).room s m ([.ref h] : List Value).toArray below meth c H locs 0 0 Q (F0 m 59 ls []) := by
      intro n9
      induction n9 with
      | zero => intro i lou H locs ls hm; exact absurd hm (Nat.not_lt_zero _)
      | succ n9 ih_59 =>
        intro i lou H locs ls hm hi hLn hP hD hS hl
        refine lv_iload hx hb d_St_keep_59 (lv_at hl 4 rfl) ?_
        refine lv_aload_n hx hb d_St_keep_61 rfl (lv_at hl 0 rfl) ?_
        refine va_get (D := (dC, dI)) (ci := 9) (v := .ref fdA) (C := R_St) (T := F_St) (N := 12) hx hb hts i_St hown hK hP 0 rfl rfl 2 (by decide) (hts _ gw_194) (fun _ h9 => h9) rfl d_St_keep_62 ?_
        refine lv_iload_n hx hb d_St_keep_65 rfl (lv_at hl 1 rfl) ?_
        refine lv_iconst (v := 1) hx hb d_St_keep_66 (by decide) ?_
        refine lv_iadd hx hb d_St_keep_67 ?_
        refine lv_topi (fun x_6 ex_6 => ?_)
        obtain rfl : x_6 = nI (P + 1) := by rw [ex_6]; first | done | (exact nI_add _ _)
        refine va_iald hx hb hK hP 3 0 rfl rfl (vp_in_nI (by omega) (by omega)) d_St_keep_68 ?_
        rw [show (nI (P + 1)).toNatClampNeg = (P + 1) from nI_clamp (by omega)]
        refine lv_topi (fun x_7 ex_7 => ?_)
        obtain rfl : x_7 = nI (D0 + nd) := by rw [ex_7]; first | done | (exact gE1)
        refine lv_icmp_ge (tgt := 150) hx hb d_St_keep_69 (by decide) (fun c_69 => ?_) (fun c_69 => ?_)
        · have n_69 : (D0 + nd) ≤ (D0 + i) := (nI_leI (a := (D0 + nd)) (b := (D0 + i)) (by omega) (by omega)).mp c_69
          have hiT : i = nd := by omega
          refine lv_iconst (v := 0) hx hb d_St_keep_150 (by decide) ?_
          refine lv_istore (lv' := [(4, .int 0), (0, .ref h), (1, .int (nI P)), (2, .int (nI rk)), (3, .int (nI (P * 8)))]) hx hb d_St_keep_151 hl (by decide) rfl (fun ls hl => ?_)
          have loop_153 : ∀ (n9 : Nat) (q : Nat) (lbu : Nat → Int64) (H : Heap) (locs : List Loc) (ls : Array Slot), P - q < n9 → (q ≤ P) → (lbu = lbX lb lou P q) → va_P (dC, dI) classes [(h, .inr (9, [sk_bytes, sk_from, .ref fdA, sk_firstChange, .ref dpA, .ref hs, .ref bh, .ref loA, .ref lbA, sk_changes, sk_lines, .int (nI P)])), (hs, .inl (cB, 16032, .inl hf)), (bh, .inl (cI, 500, .inl (upd (va_cpy bf bf rk (rk + 1) (P - rk)) rk (nI P)))), (fdA, .inl (cI, 502, .inl fdf)), (dpA, .inl (cI, 8400, .inl dpf)), (loA, .inl (cL, 4000, .inr (.inl lou))), (lbA, .inl (cL, 4000, .inr (.inl lbu)))] H → va_D A [(h, .inr (9, [sk_bytes, sk_from, .ref fdA, sk_firstChange, .ref dpA, .ref hs, .ref bh, .ref loA, .ref lbA, sk_changes, sk_lines, .int (nI P)])), (hs, .inl (cB, 16032, .inl hf)), (bh, .inl (cI, 500, .inl (upd (va_cpy bf bf rk (rk + 1) (P - rk)) rk (nI P)))), (fdA, .inl (cI, 502, .inl fdf)), (dpA, .inl (cI, 8400, .inl dpf)), (loA, .inl (cL, 4000, .inr (.inl lou))), (lbA, .inl (cL, 4000, .inr (.inl lbu)))] → va_S A s.heap H locs → lv_has ls 7 [(0, .ref h), (1, .int (nI P)), (2, .int (nI rk)), (3, .int (nI (P * 8))), (4, .int (nI q))] → W p l e (headSpec ws_St_keep ({ frames := 2, cells := 0, slots := 0, locals := 120 })).room s m ([.ref h] : List Value).toArray below meth c H locs 0 0 Q (F0 m 153 ls []) := by
            intro n9
            induction n9 with
            | zero => intro q lbu H locs ls hm; exact absurd hm (Nat.not_lt_zero _)
            | succ n9 ih_153 =>
              intro q lbu H locs ls hm hq hlb hP hD hS hl
              refine lv_iload hx hb d_St_keep_153 (lv_at hl 4 rfl) ?_
              refine lv_iload_n hx hb d_St_keep_155 rfl (lv_at hl 1 rfl) ?_
              refine lv_icmp_ge (tgt := 199) hx hb d_St_keep_156 (by decide) (fun c_156 => ?_) (fun c_156 => ?_)
              · have n_156 : P ≤ q := (nI_leI (a := P) (b := q) (by omega) (by omega)).mp c_156
                have hqP : q = P := by omega
                refine lv_aload_n hx hb d_St_keep_199 rfl (lv_at hl 0 rfl) ?_
                refine lv_dup hx hb d_St_keep_200 rfl ?_
                refine va_get (D := (dC, dI)) (ci := 9) (v := .int (nI P)) (C := R_St) (T := F_St) (N := 12) hx hb hts i_St hown hK hP 0 rfl rfl 11 (by decide) (hts _ gw_235) (fun _ h9 => h9) rfl d_St_keep_201 ?_
                refine lv_iconst (v := 1) hx hb d_St_keep_204 (by decide) ?_
                refine lv_iadd hx hb d_St_keep_205 ?_
                refine lv_topi (fun x_8 ex_8 => ?_)
                obtain rfl : x_8 = nI (P + 1) := by rw [ex_8]; first | done | (exact nI_add _ _)
                refine va_put (D := (dC, dI)) (ci := 9) (v := .int (nI (P + 1))) (ty := .int) (C := R_St) (T := F_St) (N := 12) hx hb hts i_St t_St t_St_ok n_St hown hK hP hD hS 0 rfl rfl 11 (by decide) (hts _ gw_235) (fun _ h9 => h9) rfl (by decide +kernel) rfl rfl (Nat.le_of_ble_eq_true rfl) d_St_keep_206 (fun H locs hP hD hS => ?_)
                have hP : va_P (dC, dI) classes [(h, .inr (9, [sk_bytes, sk_from, .ref fdA, sk_firstChange, .ref dpA, .ref hs, .ref bh, .ref loA, .ref lbA, sk_changes, sk_lines, .int (nI (P + 1))])), (hs, .inl (cB, 16032, .inl hf)), (bh, .inl (cI, 500, .inl (upd (va_cpy bf bf rk (rk + 1) (P - rk)) rk (nI P)))), (fdA, .inl (cI, 502, .inl fdf)), (dpA, .inl (cI, 8400, .inl dpf)), (loA, .inl (cL, 4000, .inr (.inl lou))), (lbA, .inl (cL, 4000, .inr (.inl lbu)))] H := hP
                have hD : va_D A [(h, .inr (9, [sk_bytes, sk_from, .ref fdA, sk_firstChange, .ref dpA, .ref hs, .ref bh, .ref loA, .ref lbA, sk_changes, sk_lines, .int (nI (P + 1))])), (hs, .inl (cB, 16032, .inl hf)), (bh, .inl (cI, 500, .inl (upd (va_cpy bf bf rk (rk + 1) (P - rk)) rk (nI P)))), (fdA, .inl (cI, 502, .inl fdf)), (dpA, .inl (cI, 8400, .inl dpf)), (loA, .inl (cL, 4000, .inr (.inl lou))), (lbA, .inl (cL, 4000, .inr (.inl lbu)))] := hD
                rw [← hQe]
                exact W.vret hx hb hr (fun t ht hW => ⟨⟨(lou, rk, lbu), rfl, ⟨hiT ▸ hLn, hrk, by rw [hlb, hqP]⟩, by rw [ht]; exact hP, va_K.moved hW.alike hK, hD⟩, hS.F ht⟩) hS.2.2 d_St_keep_209
              · have n_156 : q < P := Nat.lt_of_not_le (fun z => c_156 ((nI_leI (a := P) (b := q) (by omega) (by omega)).mpr z))
                refine lv_aload_n hx hb d_St_keep_159 rfl (lv_at hl 0 rfl) ?_
                refine lv_iload_n hx hb d_St_keep_160 rfl (lv_at hl 1 rfl) ?_
                refine lv_iload hx hb d_St_keep_161 (lv_at hl 4 rfl) ?_
                have hPc := hP.sub (ws' := [(h, .inr (9, [sk_bytes, sk_from, .ref fdA, sk_firstChange, .ref dpA, .ref hs, .ref bh, .ref loA, .ref lbA, sk_changes, sk_lines, .int (nI P)])), (loA, .inl (cL, 4000, .inr (.inl lou)))]) [0, 5] rfl
                have hDc := hD.sub (ws' := [(h, .inr (9, [sk_bytes, sk_from, .ref fdA, sk_firstChange, .ref dpA, .ref hs, .ref bh, .ref loA, .ref lbA, sk_changes, sk_lines, .int (nI P)])), (loA, .inl (cL, 4000, .inr (.inl lou)))]) [0, 5] (by decide) rfl
                have hFc := va_free (wc := [(h, .inr (9, [sk_bytes, sk_from, .ref fdA, sk_firstChange, .ref dpA, .ref hs, .ref bh, .ref loA, .ref lbA, sk_changes, sk_lines, .int (nI P)])), (loA, .inl (cL, 4000, .inr (.inl lou)))]) hD hS hA [0, 5] rfl
                refine va_calli (va_runV (As := [.int (nI P), .int (nI q)]) (rest := []) ⟨hx, hb, hml, hown, hts⟩ (m_St_leans l dC dI cI cB cL cZ cR h loA (sk_bytes) (sk_from) (.ref fdA) (sk_firstChange) (.ref dpA) (.ref hs) (.ref bh) (.ref lbA) (sk_changes) (sk_lines) (.int (nI P)) lou P q H.size (by omega) (by omega)) (cwV 2 hts (xg_V gw_971 gw_972 gw_973 gw_3 gw_974) rfl rfl rfl (by decide +kernel) ⟨Nat.le_of_ble_eq_true rfl, Nat.le_of_ble_eq_true rfl⟩) ⟨xw_blind, va_recv hK hPc (ci := 9) (q0 := 0) rfl rfl, fun U hU hW => ⟨rfl, by rw [hU], by rw [hU]; exact hPc, va_K.moved hW.alike hK, hDc.weaken (fun _ _ _ _ => trivial)⟩⟩ rfl rfl hl.1 rfl (lv_room (Nat.le_of_ble_eq_true rfl)) d_St_keep_163 ⟨Nat.le_of_ble_eq_true rfl, Nat.le_of_ble_eq_true rfl⟩) hS (fun q _ h => hFc q h) hFc (fun r9 u t H1 locs ht hvm hw hB hz1 hk1 hS => ?_)
                obtain ⟨hP1, hK1, hD1⟩ := hB
                rw [ht] at hP1
                obtain ⟨hP, hD⟩ := va_join (wr := [(hs, .inl (cB, 16032, .inl hf)), (bh, .inl (cI, 500, .inl (upd (va_cpy bf bf rk (rk + 1) (P - rk)) rk (nI P)))), (fdA, .inl (cI, 502, .inl fdf)), (dpA, .inl (cI, 8400, .inl dpf)), (lbA, .inl (cL, 4000, .inr (.inl lbu)))]) (w1 := [(h, .inr (9, [sk_bytes, sk_from, .ref fdA, sk_firstChange, .ref dpA, .ref hs, .ref bh, .ref loA, .ref lbA, sk_changes, sk_lines, .int (nI P)])), (loA, .inl (cL, 4000, .inr (.inl lou)))]) hP hD [0, 5] [1, 2, 3, 4, 6] rfl rfl (by decide) (by decide) hk1 hFc hP1 hD1
                generalize H1 = H at hP hS ⊢
                have hP : va_P (dC, dI) classes [(hs, .inl (cB, 16032, .inl hf)), (bh, .inl (cI, 500, .inl (upd (va_cpy bf bf rk (rk + 1) (P - rk)) rk (nI P)))), (fdA, .inl (cI, 502, .inl fdf)), (dpA, .inl (cI, 8400, .inl dpf)), (lbA, .inl (cL, 4000, .inr (.inl lbu))), (h, .inr (9, [sk_bytes, sk_from, .ref fdA, sk_firstChange, .ref dpA, .ref hs, .ref bh, .ref loA, .ref lbA, sk_changes, sk_lines, .int (nI P)])), (loA, .inl (cL, 4000, .inr (.inl lou)))] H := hP
                have hD : va_D A [(hs, .inl (cB, 16032, .inl hf)), (bh, .inl (cI, 500, .inl (upd (va_cpy bf bf rk (rk + 1) (P - rk)) rk (nI P)))), (fdA, .inl (cI, 502, .inl fdf)), (dpA, .inl (cI, 8400, .inl dpf)), (lbA, .inl (cL, 4000, .inr (.inl lbu))), (h, .inr (9, [sk_bytes, sk_from, .ref fdA, sk_firstChange, .ref dpA, .ref hs, .ref bh, .ref loA, .ref lbA, sk_changes, sk_lines, .int (nI P)])), (loA, .inl (cL, 4000, .inr (.inl lou)))] := hD
                rcases hw with ⟨rfl, hln⟩ | ⟨rfl, hln⟩
                · have hP : va_P (dC, dI) classes [(hs, .inl (cB, 16032, .inl hf)), (bh, .inl (cI, 500, .inl (upd (va_cpy bf bf rk (rk + 1) (P - rk)) rk (nI P)))), (fdA, .inl (cI, 502, .inl fdf)), (dpA, .inl (cI, 8400, .inl dpf)), (lbA, .inl (cL, 4000, .inr (.inl lbu))), (h, .inr (9, [sk_bytes, sk_from, .ref fdA, sk_firstChange, .ref dpA, .ref hs, .ref bh, .ref loA, .ref lbA, sk_changes, sk_lines, .int (nI P)])), (loA, .inl (cL, 4000, .inr (.inl lou)))] H := hP
                  have hD : va_D A [(hs, .inl (cB, 16032, .inl hf)), (bh, .inl (cI, 500, .inl (upd (va_cpy bf bf rk (rk + 1) (P - rk)) rk (nI P)))), (fdA, .inl (cI, 502, .inl fdf)), (dpA, .inl (cI, 8400, .inl dpf)), (lbA, .inl (cL, 4000, .inr (.inl lbu))), (h, .inr (9, [sk_bytes, sk_from, .ref fdA, sk_firstChange, .ref dpA, .ref hs, .ref bh, .ref loA, .ref lbA, sk_changes, sk_lines, .int (nI P)])), (loA, .inl (cL, 4000, .inr (.inl lou)))] := hD
                  refine lv_if_eq (tgt := 193) hx hb d_St_keep_166 (by decide) (fun c_166 => absurd c_166 (by decide)) (fun _ => ?_)
                  refine lv_aload_n hx hb d_St_keep_169 rfl (lv_at hl 0 rfl) ?_
                  refine va_get (D := (dC, dI)) (ci := 9) (v := .ref lbA) (C := R_St) (T := F_St) (N := 12) hx hb hts i_St hown hK hP 5 rfl rfl 8 (by decide) (hts _ gw_218) (fun _ h9 => h9) rfl d_St_keep_170 ?_
                  refine lv_iload hx hb d_St_keep_173 (lv_at hl 4 rfl) ?_
                  refine lv_bipush (v := 8) hx hb d_St_keep_175 (by decide) ?_
                  refine lv_imul hx hb d_St_keep_177 ?_
                  refine lv_topi (fun x_9 ex_9 => ?_)
                  obtain rfl : x_9 = nI (q * 8) := by rw [ex_9]; first | done | (exact nI_mul _ _)
                  refine lv_iload_n hx hb d_St_keep_178 rfl (lv_at hl 1 rfl) ?_
                  refine lv_bipush (v := 6) hx hb d_St_keep_179 (by decide) ?_
                  refine lv_ishr hx hb d_St_keep_181 ?_
                  refine lv_topi (fun x_10 ex_10 => ?_)
                  obtain rfl : x_10 = nI (P / 64) := by rw [ex_10]; first | done | (exact pk_shrN (by omega) _ 6 (by decide))
                  refine lv_iadd hx hb d_St_keep_182 ?_
                  refine lv_topi (fun x_11 ex_11 => ?_)
                  obtain rfl : x_11 = nI ((q * 8) + (P / 64)) := by rw [ex_11]; first | done | (exact nI_add _ _)
                  refine lv_dup2_11 hx hb d_St_keep_183 rfl rfl ?_
                  refine va_lald hx hb hK hP 4 2 rfl rfl (vp_in_nI (by omega) (by omega)) d_St_keep_184 ?_
                  rw [show (nI ((q * 8) + (P / 64))).toNatClampNeg = ((q * 8) + (P / 64)) from nI_clamp (by omega)]
                  refine lv_lconst (v := 1) hx hb d_St_keep_185 (by decide) ?_
                  refine lv_iload_n hx hb d_St_keep_186 rfl (lv_at hl 1 rfl) ?_
                  refine lv_bipush (v := 63) hx hb d_St_keep_187 (by decide) ?_
                  refine lv_iand hx hb d_St_keep_189 ?_
                  refine lv_topi (fun x_12 ex_12 => ?_)
                  obtain rfl : x_12 = nI (P % 64) := by rw [ex_12]; first | done | (exact pk_andN (by omega) 6 (by decide))
                  refine lv_lshl hx hb d_St_keep_190 rfl ?_
                  refine lv_lor hx hb d_St_keep_191 ?_
                  refine va_last hx hb hK hP hD hS 4 2 rfl rfl (vp_in_nI (by omega) (by omega)) d_St_keep_192 (fun H locs hP hD hS => ?_)
                  rw [show (nI ((q * 8) + (P / 64))).toNatClampNeg = ((q * 8) + (P / 64)) from nI_clamp (by omega)] at hP hD
                  have hP : va_P (dC, dI) classes [(hs, .inl (cB, 16032, .inl hf)), (bh, .inl (cI, 500, .inl (upd (va_cpy bf bf rk (rk + 1) (P - rk)) rk (nI P)))), (fdA, .inl (cI, 502, .inl fdf)), (dpA, .inl (cI, 8400, .inl dpf)), (lbA, .inl (cL, 4000, .inr (.inl (vp_updL lbu ((q * 8) + (P / 64)) ((lbu ((q * 8) + (P / 64))) ||| (1 <<< ((nI (P % 64) : Int32).toInt64 &&& 63))))))), (h, .inr (9, [sk_bytes, sk_from, .ref fdA, sk_firstChange, .ref dpA, .ref hs, .ref bh, .ref loA, .ref lbA, sk_changes, sk_lines, .int (nI P)])), (loA, .inl (cL, 4000, .inr (.inl lou)))] H := hP
                  have hD : va_D A [(hs, .inl (cB, 16032, .inl hf)), (bh, .inl (cI, 500, .inl (upd (va_cpy bf bf rk (rk + 1) (P - rk)) rk (nI P)))), (fdA, .inl (cI, 502, .inl fdf)), (dpA, .inl (cI, 8400, .inl dpf)), (lbA, .inl (cL, 4000, .inr (.inl (vp_updL lbu ((q * 8) + (P / 64)) ((lbu ((q * 8) + (P / 64))) ||| (1 <<< ((nI (P % 64) : Int32).toInt64 &&& 63))))))), (h, .inr (9, [sk_bytes, sk_from, .ref fdA, sk_firstChange, .ref dpA, .ref hs, .ref bh, .ref loA, .ref lbA, sk_changes, sk_lines, .int (nI P)])), (loA, .inl (cL, 4000, .inr (.inl lou)))] := hD
                  refine lv_iinc (v := nI (q + 1)) (lv' := [(4, .int (nI (q + 1))), (0, .ref h), (1, .int (nI P)), (2, .int (nI rk)), (3, .int (nI (P * 8)))]) hx hb d_St_keep_193 hl (k := 4) rfl (by exact nI_add _ _) (by decide) rfl (fun ls hl => ?_)
                  refine lv_goto (tgt := 153) hx hb d_St_keep_196 (by decide) ?_
                  exact ih_153 (q + 1) (btr_in lbu (q * 8) P) _ _ _ (by omega) (by omega) (by rw [hlb]; exact (lbX_yes hP4 hln).symm) (hP.sub [5, 0, 1, 2, 3, 6, 4] rfl) (hD.sub [5, 0, 1, 2, 3, 6, 4] (by decide) rfl) hS (lv_sub hl [1, 2, 3, 4, 0] rfl)
                · have hP : va_P (dC, dI) classes [(hs, .inl (cB, 16032, .inl hf)), (bh, .inl (cI, 500, .inl (upd (va_cpy bf bf rk (rk + 1) (P - rk)) rk (nI P)))), (fdA, .inl (cI, 502, .inl fdf)), (dpA, .inl (cI, 8400, .inl dpf)), (lbA, .inl (cL, 4000, .inr (.inl lbu))), (h, .inr (9, [sk_bytes, sk_from, .ref fdA, sk_firstChange, .ref dpA, .ref hs, .ref bh, .ref loA, .ref lbA, sk_changes, sk_lines, .int (nI P)])), (loA, .inl (cL, 4000, .inr (.inl lou)))] H := hP
                  have hD : va_D A [(hs, .inl (cB, 16032, .inl hf)), (bh, .inl (cI, 500, .inl (upd (va_cpy bf bf rk (rk + 1) (P - rk)) rk (nI P)))), (fdA, .inl (cI, 502, .inl fdf)), (dpA, .inl (cI, 8400, .inl dpf)), (lbA, .inl (cL, 4000, .inr (.inl lbu))), (h, .inr (9, [sk_bytes, sk_from, .ref fdA, sk_firstChange, .ref dpA, .ref hs, .ref bh, .ref loA, .ref lbA, sk_changes, sk_lines, .int (nI P)])), (loA, .inl (cL, 4000, .inr (.inl lou)))] := hD
                  refine lv_if_eq (tgt := 193) hx hb d_St_keep_166 (by decide) (fun _ => ?_) (fun c_166 => absurd (by decide) c_166)
                  refine lv_iinc (v := nI (q + 1)) (lv' := [(4, .int (nI (q + 1))), (0, .ref h), (1, .int (nI P)), (2, .int (nI rk)), (3, .int (nI (P * 8)))]) hx hb d_St_keep_193 hl (k := 4) rfl (by exact nI_add _ _) (by decide) rfl (fun ls hl => ?_)
                  refine lv_goto (tgt := 153) hx hb d_St_keep_196 (by decide) ?_
                  exact ih_153 (q + 1) lbu _ _ _ (by omega) (by omega) (by rw [hlb]; exact (lbX_no hln).symm) (hP.sub [5, 0, 1, 2, 3, 6, 4] rfl) (hD.sub [5, 0, 1, 2, 3, 6, 4] (by decide) rfl) hS (lv_sub hl [1, 2, 3, 4, 0] rfl)
          exact loop_153 _ 0 lb _ _ _ (Nat.lt_succ_self _) (Nat.zero_le _) ((lbX_0 _ _ _).symm) hP hD hS (lv_sub hl [1, 2, 3, 4, 0] rfl)
        · have n_69 : (D0 + i) < (D0 + nd) := Nat.lt_of_not_le (fun z => c_69 ((nI_leI (a := (D0 + nd)) (b := (D0 + i)) (by omega) (by omega)).mpr z))
          obtain ⟨hdv, hdi⟩ := gD i (by omega)
          refine lv_aload_n hx hb d_St_keep_72 rfl (lv_at hl 0 rfl) ?_
          refine va_get (D := (dC, dI)) (ci := 9) (v := .ref dpA) (C := R_St) (T := F_St) (N := 12) hx hb hts i_St hown hK hP 0 rfl rfl 4 (by decide) (hts _ gw_202) (fun _ h9 => h9) rfl d_St_keep_73 ?_
          refine lv_iload hx hb d_St_keep_76 (lv_at hl 4 rfl) ?_
          refine va_iald hx hb hK hP 4 0 rfl rfl (vp_in_nI (by omega) (by omega)) d_St_keep_78 ?_
          rw [show (nI (D0 + i)).toNatClampNeg = (D0 + i) from nI_clamp (by omega)]
          refine lv_topi (fun x_13 ex_13 => ?_)
          obtain rfl : x_13 = nI (DP i) := by rw [ex_13]; first | done | (exact hdv)
          refine lv_istore (lv' := [(5, .int (nI (DP i))), (0, .ref h), (1, .int (nI P)), (2, .int (nI rk)), (3, .int (nI (P * 8))), (4, .int (nI (D0 + i)))]) hx hb d_St_keep_79 hl (by decide) rfl (fun ls hl => ?_)
          refine lv_iconst (v := 0) hx hb d_St_keep_81 (by decide) ?_
          refine lv_istore (lv' := [(6, .int 0), (5, .int (nI (DP i))), (0, .ref h), (1, .int (nI P)), (2, .int (nI rk)), (3, .int (nI (P * 8))), (4, .int (nI (D0 + i)))]) hx hb d_St_keep_82 hl (by decide) rfl (fun ls hl => ?_)
          have loop_84 : ∀ (n9 : Nat) (wd : Nat) (lov : Nat → Int64) (H : Heap) (locs : List Loc) (ls : Array Slot), 8 - wd < n9 → (wd ≤ 8) → (∀ k, k < P * 8 ∨ P * 8 + 8 ≤ k → lov k = lo k) → (∀ k, k < 8 → lov (P * 8 + k) = if k < wd then lou (P * 8 + k) ||| lo (DP i * 8 + k) else lou (P * 8 + k)) → va_P (dC, dI) classes [(h, .inr (9, [sk_bytes, sk_from, .ref fdA, sk_firstChange, .ref dpA, .ref hs, .ref bh, .ref loA, .ref lbA, sk_changes, sk_lines, .int (nI P)])), (hs, .inl (cB, 16032, .inl hf)), (bh, .inl (cI, 500, .inl (upd (va_cpy bf bf rk (rk + 1) (P - rk)) rk (nI P)))), (fdA, .inl (cI, 502, .inl fdf)), (dpA, .inl (cI, 8400, .inl dpf)), (loA, .inl (cL, 4000, .inr (.inl lov))), (lbA, .inl (cL, 4000, .inr (.inl lb)))] H → va_D A [(h, .inr (9, [sk_bytes, sk_from, .ref fdA, sk_firstChange, .ref dpA, .ref hs, .ref bh, .ref loA, .ref lbA, sk_changes, sk_lines, .int (nI P)])), (hs, .inl (cB, 16032, .inl hf)), (bh, .inl (cI, 500, .inl (upd (va_cpy bf bf rk (rk + 1) (P - rk)) rk (nI P)))), (fdA, .inl (cI, 502, .inl fdf)), (dpA, .inl (cI, 8400, .inl dpf)), (loA, .inl (cL, 4000, .inr (.inl lov))), (lbA, .inl (cL, 4000, .inr (.inl lb)))] → va_S A s.heap H locs → lv_has ls 7 [(0, .ref h), (1, .int (nI P)), (2, .int (nI rk)), (3, .int (nI (P * 8))), (4, .int (nI (D0 + i))), (5, .int (nI (DP i))), (6, .int (nI wd))] → W p l e (headSpec ws_St_keep ({ frames := 2, cells := 0, slots := 0, locals := 120 })).room s m ([.ref h] : List Value).toArray below meth c H locs 0 0 Q (F0 m 84 ls []) := by
            intro n9
            induction n9 with
            | zero => intro wd lov H locs ls hm; exact absurd hm (Nat.not_lt_zero _)
            | succ n9 ih_84 =>
              intro wd lov H locs ls hm hwd hA2 hC2 hP hD hS hl
              refine lv_iload hx hb d_St_keep_84 (lv_at hl 6 rfl) ?_
              refine lv_bipush (v := 8) hx hb d_St_keep_86 (by decide) ?_
              refine lv_icmp_ge (tgt := 122) hx hb d_St_keep_88 (by decide) (fun c_88 => ?_) (fun c_88 => ?_)
              · have n_88 : 8 ≤ wd := (nI_leI (a := 8) (b := wd) (by omega) (by omega)).mp c_88
                refine lv_aload_n hx hb d_St_keep_122 rfl (lv_at hl 0 rfl) ?_
                refine va_get (D := (dC, dI)) (ci := 9) (v := .ref loA) (C := R_St) (T := F_St) (N := 12) hx hb hts i_St hown hK hP 0 rfl rfl 7 (by decide) (hts _ gw_214) (fun _ h9 => h9) rfl d_St_keep_123 ?_
                refine lv_iload_n hx hb d_St_keep_126 rfl (lv_at hl 3 rfl) ?_
                refine lv_iload hx hb d_St_keep_127 (lv_at hl 5 rfl) ?_
                refine lv_bipush (v := 6) hx hb d_St_keep_129 (by decide) ?_
                refine lv_ishr hx hb d_St_keep_131 ?_
                refine lv_topi (fun x_14 ex_14 => ?_)
                obtain rfl : x_14 = nI ((DP i) / 64) := by rw [ex_14]; first | done | (exact pk_shrN (by omega) _ 6 (by decide))
                refine lv_iadd hx hb d_St_keep_132 ?_
                refine lv_topi (fun x_15 ex_15 => ?_)
                obtain rfl : x_15 = nI ((P * 8) + ((DP i) / 64)) := by rw [ex_15]; first | done | (exact nI_add _ _)
                refine lv_dup2_11 hx hb d_St_keep_133 rfl rfl ?_
                refine va_lald hx hb hK hP 5 2 rfl rfl (vp_in_nI (by omega) (by omega)) d_St_keep_134 ?_
                rw [show (nI ((P * 8) + ((DP i) / 64))).toNatClampNeg = ((P * 8) + ((DP i) / 64)) from nI_clamp (by omega)]
                refine lv_lconst (v := 1) hx hb d_St_keep_135 (by decide) ?_
                refine lv_iload hx hb d_St_keep_136 (lv_at hl 5 rfl) ?_
                refine lv_bipush (v := 63) hx hb d_St_keep_138 (by decide) ?_
                refine lv_iand hx hb d_St_keep_140 ?_
                refine lv_topi (fun x_16 ex_16 => ?_)
                obtain rfl : x_16 = nI ((DP i) % 64) := by rw [ex_16]; first | done | (exact pk_andN (by omega) 6 (by decide))
                refine lv_lshl hx hb d_St_keep_141 rfl ?_
                refine lv_lor hx hb d_St_keep_142 ?_
                refine va_last hx hb hK hP hD hS 5 2 rfl rfl (vp_in_nI (by omega) (by omega)) d_St_keep_143 (fun H locs hP hD hS => ?_)
                rw [show (nI ((P * 8) + ((DP i) / 64))).toNatClampNeg = ((P * 8) + ((DP i) / 64)) from nI_clamp (by omega)] at hP hD
                have hP : va_P (dC, dI) classes [(h, .inr (9, [sk_bytes, sk_from, .ref fdA, sk_firstChange, .ref dpA, .ref hs, .ref bh, .ref loA, .ref lbA, sk_changes, sk_lines, .int (nI P)])), (hs, .inl (cB, 16032, .inl hf)), (bh, .inl (cI, 500, .inl (upd (va_cpy bf bf rk (rk + 1) (P - rk)) rk (nI P)))), (fdA, .inl (cI, 502, .inl fdf)), (dpA, .inl (cI, 8400, .inl dpf)), (loA, .inl (cL, 4000, .inr (.inl (vp_updL lov ((P * 8) + ((DP i) / 64)) ((lov ((P * 8) + ((DP i) / 64))) ||| (1 <<< ((nI ((DP i) % 64) : Int32).toInt64 &&& 63))))))), (lbA, .inl (cL, 4000, .inr (.inl lb)))] H := hP
                have hD : va_D A [(h, .inr (9, [sk_bytes, sk_from, .ref fdA, sk_firstChange, .ref dpA, .ref hs, .ref bh, .ref loA, .ref lbA, sk_changes, sk_lines, .int (nI P)])), (hs, .inl (cB, 16032, .inl hf)), (bh, .inl (cI, 500, .inl (upd (va_cpy bf bf rk (rk + 1) (P - rk)) rk (nI P)))), (fdA, .inl (cI, 502, .inl fdf)), (dpA, .inl (cI, 8400, .inl dpf)), (loA, .inl (cL, 4000, .inr (.inl (vp_updL lov ((P * 8) + ((DP i) / 64)) ((lov ((P * 8) + ((DP i) / 64))) ||| (1 <<< ((nI ((DP i) % 64) : Int32).toInt64 &&& 63))))))), (lbA, .inl (cL, 4000, .inr (.inl lb)))] := hD
                refine lv_iinc (v := nI (D0 + i + 1)) (lv' := [(4, .int (nI (D0 + i + 1))), (0, .ref h), (1, .int (nI P)), (2, .int (nI rk)), (3, .int (nI (P * 8))), (5, .int (nI (DP i))), (6, .int (nI wd))]) hx hb d_St_keep_144 hl (k := 4) rfl (by exact nI_add _ _) (by decide) rfl (fun ls hl => ?_)
                refine lv_goto (tgt := 59) hx hb d_St_keep_147 (by decide) ?_
                exact ih_59 (i + 1) (btr_in lov (P * 8) (DP i)) _ _ _ (by omega) (by omega) (lnO.step hLn hdi hP4 hA2 (fun k z => by rw [hC2 k z, if_pos (by omega)])) hP hD hS (lv_sub hl [1, 2, 3, 4, 0] rfl)
              · have n_88 : wd < 8 := Nat.lt_of_not_le (fun z => c_88 ((nI_leI (a := 8) (b := wd) (by omega) (by omega)).mpr z))
                refine lv_aload_n hx hb d_St_keep_91 rfl (lv_at hl 0 rfl) ?_
                refine va_get (D := (dC, dI)) (ci := 9) (v := .ref loA) (C := R_St) (T := F_St) (N := 12) hx hb hts i_St hown hK hP 0 rfl rfl 7 (by decide) (hts _ gw_214) (fun _ h9 => h9) rfl d_St_keep_92 ?_
                refine lv_iload_n hx hb d_St_keep_95 rfl (lv_at hl 3 rfl) ?_
                refine lv_iload hx hb d_St_keep_96 (lv_at hl 6 rfl) ?_
                refine lv_iadd hx hb d_St_keep_98 ?_
                refine lv_topi (fun x_17 ex_17 => ?_)
                obtain rfl : x_17 = nI ((P * 8) + wd) := by rw [ex_17]; first | done | (exact nI_add _ _)
                refine lv_dup2_11 hx hb d_St_keep_99 rfl rfl ?_
                refine va_lald hx hb hK hP 5 2 rfl rfl (vp_in_nI (by omega) (by omega)) d_St_keep_100 ?_
                rw [show (nI ((P * 8) + wd)).toNatClampNeg = ((P * 8) + wd) from nI_clamp (by omega)]
                refine lv_aload_n hx hb d_St_keep_101 rfl (lv_at hl 0 rfl) ?_
                refine va_get (D := (dC, dI)) (ci := 9) (v := .ref loA) (C := R_St) (T := F_St) (N := 12) hx hb hts i_St hown hK hP 0 rfl rfl 7 (by decide) (hts _ gw_214) (fun _ h9 => h9) rfl d_St_keep_102 ?_
                refine lv_iload hx hb d_St_keep_105 (lv_at hl 5 rfl) ?_
                refine lv_bipush (v := 8) hx hb d_St_keep_107 (by decide) ?_
                refine lv_imul hx hb d_St_keep_109 ?_
                refine lv_topi (fun x_18 ex_18 => ?_)
                obtain rfl : x_18 = nI ((DP i) * 8) := by rw [ex_18]; first | done | (exact nI_mul _ _)
                refine lv_iload hx hb d_St_keep_110 (lv_at hl 6 rfl) ?_
                refine lv_iadd hx hb d_St_keep_112 ?_
                refine lv_topi (fun x_19 ex_19 => ?_)
                obtain rfl : x_19 = nI (((DP i) * 8) + wd) := by rw [ex_19]; first | done | (exact nI_add _ _)
                refine va_lald hx hb hK hP 5 2 rfl rfl (vp_in_nI (by omega) (by omega)) d_St_keep_113 ?_
                rw [show (nI (((DP i) * 8) + wd)).toNatClampNeg = (((DP i) * 8) + wd) from nI_clamp (by omega)]
                refine lv_lor hx hb d_St_keep_114 ?_
                refine va_last hx hb hK hP hD hS 5 2 rfl rfl (vp_in_nI (by omega) (by omega)) d_St_keep_115 (fun H locs hP hD hS => ?_)
                rw [show (nI ((P * 8) + wd)).toNatClampNeg = ((P * 8) + wd) from nI_clamp (by omega)] at hP hD
                have hP : va_P (dC, dI) classes [(h, .inr (9, [sk_bytes, sk_from, .ref fdA, sk_firstChange, .ref dpA, .ref hs, .ref bh, .ref loA, .ref lbA, sk_changes, sk_lines, .int (nI P)])), (hs, .inl (cB, 16032, .inl hf)), (bh, .inl (cI, 500, .inl (upd (va_cpy bf bf rk (rk + 1) (P - rk)) rk (nI P)))), (fdA, .inl (cI, 502, .inl fdf)), (dpA, .inl (cI, 8400, .inl dpf)), (loA, .inl (cL, 4000, .inr (.inl (vp_updL lov ((P * 8) + wd) ((lov ((P * 8) + wd)) ||| (lov (((DP i) * 8) + wd))))))), (lbA, .inl (cL, 4000, .inr (.inl lb)))] H := hP
                have hD : va_D A [(h, .inr (9, [sk_bytes, sk_from, .ref fdA, sk_firstChange, .ref dpA, .ref hs, .ref bh, .ref loA, .ref lbA, sk_changes, sk_lines, .int (nI P)])), (hs, .inl (cB, 16032, .inl hf)), (bh, .inl (cI, 500, .inl (upd (va_cpy bf bf rk (rk + 1) (P - rk)) rk (nI P)))), (fdA, .inl (cI, 502, .inl fdf)), (dpA, .inl (cI, 8400, .inl dpf)), (loA, .inl (cL, 4000, .inr (.inl (vp_updL lov ((P * 8) + wd) ((lov ((P * 8) + wd)) ||| (lov (((DP i) * 8) + wd))))))), (lbA, .inl (cL, 4000, .inr (.inl lb)))] := hD
                refine lv_iinc (v := nI (wd + 1)) (lv' := [(6, .int (nI (wd + 1))), (0, .ref h), (1, .int (nI P)), (2, .int (nI rk)), (3, .int (nI (P * 8))), (4, .int (nI (D0 + i))), (5, .int (nI (DP i)))]) hx hb d_St_keep_116 hl (k := 6) rfl (by exact nI_add _ _) (by decide) rfl (fun ls hl => ?_)
                refine lv_goto (tgt := 84) hx hb d_St_keep_119 (by decide) ?_
                exact ih_84 (wd + 1) (vp_updL lov (P * 8 + wd) (lov (P * 8 + wd) ||| lov (DP i * 8 + wd))) _ _ _ (by omega) (by omega) (fun k z => (vpL_ne _ (by omega)).trans (hA2 k z)) (lnC hA2 hdi n_88 hC2) hP hD hS (lv_sub hl [1, 2, 3, 4, 5, 6, 0] rfl)
          exact loop_84 _ 0 lou _ _ _ (Nat.lt_succ_self _) (Nat.zero_le _) (hLn.1) (fun k z => (if_neg (Nat.not_lt_zero _)).symm) hP hD hS (lv_sub hl [2, 3, 4, 5, 6, 1, 0] rfl)
    exact loop_59 _ 0 lo _ _ _ (Nat.lt_succ_self _) (Nat.zero_le _) (lnO.zero _ _ _) (hP.sub [4, 5, 6, 0, 1, 2, 3] rfl) (hD.sub [4, 5, 6, 0, 1, 2, 3] (by decide) rfl) hS (lv_sub hl [4, 3, 2, 1, 0] rfl)
