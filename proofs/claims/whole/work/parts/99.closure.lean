/-! 99.closure.lean.txt -/
def y_Tx_closeReach : MethodName := ⟨"PatchStore$Text", "closeReach", "()V"⟩
abbrev c_Tx_closeReach : Cond := (Jvm.Cond.code ({ cls := "PatchStore$Text", name := "closeReach", desc := "()V" } : Jvm.MethodName) prog_11_method_11_code (9 : Nat) (Option.none : Option Jvm.ClassFile.FieldType))
abbrev ws_Tx_closeReach : List Cond := c_Tx_closeReach :: xg_1
theorem d_Tx_closeReach_0 : decode prog_11_method_11_code 0 = .ok (.aload_n 0, 1) := by decide +kernel
theorem d_Tx_closeReach_1 : decode prog_11_method_11_code 1 = .ok (.getfield 97, 3) := by decide +kernel
theorem d_Tx_closeReach_4 : decode prog_11_method_11_code 4 = .ok (.bipush 63, 2) := by decide +kernel
theorem d_Tx_closeReach_6 : decode prog_11_method_11_code 6 = .ok (.iadd, 1) := by decide +kernel
theorem d_Tx_closeReach_7 : decode prog_11_method_11_code 7 = .ok (.bipush 6, 2) := by decide +kernel
theorem d_Tx_closeReach_9 : decode prog_11_method_11_code 9 = .ok (.ishr, 1) := by decide +kernel
theorem d_Tx_closeReach_10 : decode prog_11_method_11_code 10 = .ok (.istore_n 1, 1) := by decide +kernel
theorem d_Tx_closeReach_11 : decode prog_11_method_11_code 11 = .ok (.aload_n 0, 1) := by decide +kernel
theorem d_Tx_closeReach_12 : decode prog_11_method_11_code 12 = .ok (.getfield 97, 3) := by decide +kernel
theorem d_Tx_closeReach_15 : decode prog_11_method_11_code 15 = .ok (.iconst 1, 1) := by decide +kernel
theorem d_Tx_closeReach_16 : decode prog_11_method_11_code 16 = .ok (.isub, 1) := by decide +kernel
theorem d_Tx_closeReach_17 : decode prog_11_method_11_code 17 = .ok (.istore_n 2, 1) := by decide +kernel
theorem d_Tx_closeReach_18 : decode prog_11_method_11_code 18 = .ok (.iload_n 2, 1) := by decide +kernel
theorem d_Tx_closeReach_19 : decode prog_11_method_11_code 19 = .ok (.ifCond .lt 108, 3) := by decide +kernel
theorem d_Tx_closeReach_22 : decode prog_11_method_11_code 22 = .ok (.iload_n 2, 1) := by decide +kernel
theorem d_Tx_closeReach_23 : decode prog_11_method_11_code 23 = .ok (.bipush 7, 2) := by decide +kernel
theorem d_Tx_closeReach_25 : decode prog_11_method_11_code 25 = .ok (.imul, 1) := by decide +kernel
theorem d_Tx_closeReach_26 : decode prog_11_method_11_code 26 = .ok (.istore_n 3, 1) := by decide +kernel
theorem d_Tx_closeReach_27 : decode prog_11_method_11_code 27 = .ok (.iload_n 2, 1) := by decide +kernel
theorem d_Tx_closeReach_28 : decode prog_11_method_11_code 28 = .ok (.bipush 6, 2) := by decide +kernel
theorem d_Tx_closeReach_30 : decode prog_11_method_11_code 30 = .ok (.ishr, 1) := by decide +kernel
theorem d_Tx_closeReach_31 : decode prog_11_method_11_code 31 = .ok (.istore 4, 2) := by decide +kernel
theorem d_Tx_closeReach_33 : decode prog_11_method_11_code 33 = .ok (.iload_n 2, 1) := by decide +kernel
theorem d_Tx_closeReach_34 : decode prog_11_method_11_code 34 = .ok (.bipush 63, 2) := by decide +kernel
theorem d_Tx_closeReach_36 : decode prog_11_method_11_code 36 = .ok (.iand, 1) := by decide +kernel
theorem d_Tx_closeReach_37 : decode prog_11_method_11_code 37 = .ok (.istore 5, 2) := by decide +kernel
theorem d_Tx_closeReach_39 : decode prog_11_method_11_code 39 = .ok (.iconst 0, 1) := by decide +kernel
theorem d_Tx_closeReach_40 : decode prog_11_method_11_code 40 = .ok (.istore 6, 2) := by decide +kernel
theorem d_Tx_closeReach_42 : decode prog_11_method_11_code 42 = .ok (.iload 6, 2) := by decide +kernel
theorem d_Tx_closeReach_44 : decode prog_11_method_11_code 44 = .ok (.aload_n 0, 1) := by decide +kernel
theorem d_Tx_closeReach_45 : decode prog_11_method_11_code 45 = .ok (.getfield 97, 3) := by decide +kernel
theorem d_Tx_closeReach_48 : decode prog_11_method_11_code 48 = .ok (.if_icmp .ge 73, 3) := by decide +kernel
theorem d_Tx_closeReach_51 : decode prog_11_method_11_code 51 = .ok (.iload 6, 2) := by decide +kernel
theorem d_Tx_closeReach_53 : decode prog_11_method_11_code 53 = .ok (.bipush 7, 2) := by decide +kernel
theorem d_Tx_closeReach_55 : decode prog_11_method_11_code 55 = .ok (.imul, 1) := by decide +kernel
theorem d_Tx_closeReach_56 : decode prog_11_method_11_code 56 = .ok (.istore 7, 2) := by decide +kernel
theorem d_Tx_closeReach_58 : decode prog_11_method_11_code 58 = .ok (.aload_n 0, 1) := by decide +kernel
theorem d_Tx_closeReach_59 : decode prog_11_method_11_code 59 = .ok (.getfield 21, 3) := by decide +kernel
theorem d_Tx_closeReach_62 : decode prog_11_method_11_code 62 = .ok (.iload 7, 2) := by decide +kernel
theorem d_Tx_closeReach_64 : decode prog_11_method_11_code 64 = .ok (.iload 4, 2) := by decide +kernel
theorem d_Tx_closeReach_66 : decode prog_11_method_11_code 66 = .ok (.iadd, 1) := by decide +kernel
theorem d_Tx_closeReach_67 : decode prog_11_method_11_code 67 = .ok (.laload, 1) := by decide +kernel
theorem d_Tx_closeReach_68 : decode prog_11_method_11_code 68 = .ok (.iload 5, 2) := by decide +kernel
theorem d_Tx_closeReach_70 : decode prog_11_method_11_code 70 = .ok (.lshr, 1) := by decide +kernel
theorem d_Tx_closeReach_71 : decode prog_11_method_11_code 71 = .ok (.lconst 1, 1) := by decide +kernel
theorem d_Tx_closeReach_72 : decode prog_11_method_11_code 72 = .ok (.land, 1) := by decide +kernel
theorem d_Tx_closeReach_73 : decode prog_11_method_11_code 73 = .ok (.lconst 0, 1) := by decide +kernel
theorem d_Tx_closeReach_74 : decode prog_11_method_11_code 74 = .ok (.lcmp, 1) := by decide +kernel
theorem d_Tx_closeReach_75 : decode prog_11_method_11_code 75 = .ok (.ifCond .eq 40, 3) := by decide +kernel
theorem d_Tx_closeReach_78 : decode prog_11_method_11_code 78 = .ok (.iconst 0, 1) := by decide +kernel
theorem d_Tx_closeReach_79 : decode prog_11_method_11_code 79 = .ok (.istore 8, 2) := by decide +kernel
theorem d_Tx_closeReach_81 : decode prog_11_method_11_code 81 = .ok (.iload 8, 2) := by decide +kernel
theorem d_Tx_closeReach_83 : decode prog_11_method_11_code 83 = .ok (.iload_n 1, 1) := by decide +kernel
theorem d_Tx_closeReach_84 : decode prog_11_method_11_code 84 = .ok (.if_icmp .ge 31, 3) := by decide +kernel
theorem d_Tx_closeReach_87 : decode prog_11_method_11_code 87 = .ok (.aload_n 0, 1) := by decide +kernel
theorem d_Tx_closeReach_88 : decode prog_11_method_11_code 88 = .ok (.getfield 21, 3) := by decide +kernel
theorem d_Tx_closeReach_91 : decode prog_11_method_11_code 91 = .ok (.iload 7, 2) := by decide +kernel
theorem d_Tx_closeReach_93 : decode prog_11_method_11_code 93 = .ok (.iload 8, 2) := by decide +kernel
theorem d_Tx_closeReach_95 : decode prog_11_method_11_code 95 = .ok (.iadd, 1) := by decide +kernel
theorem d_Tx_closeReach_96 : decode prog_11_method_11_code 96 = .ok (.dup2, 1) := by decide +kernel
theorem d_Tx_closeReach_97 : decode prog_11_method_11_code 97 = .ok (.laload, 1) := by decide +kernel
theorem d_Tx_closeReach_98 : decode prog_11_method_11_code 98 = .ok (.aload_n 0, 1) := by decide +kernel
theorem d_Tx_closeReach_99 : decode prog_11_method_11_code 99 = .ok (.getfield 21, 3) := by decide +kernel
theorem d_Tx_closeReach_102 : decode prog_11_method_11_code 102 = .ok (.iload_n 3, 1) := by decide +kernel
theorem d_Tx_closeReach_103 : decode prog_11_method_11_code 103 = .ok (.iload 8, 2) := by decide +kernel
theorem d_Tx_closeReach_105 : decode prog_11_method_11_code 105 = .ok (.iadd, 1) := by decide +kernel
theorem d_Tx_closeReach_106 : decode prog_11_method_11_code 106 = .ok (.laload, 1) := by decide +kernel
theorem d_Tx_closeReach_107 : decode prog_11_method_11_code 107 = .ok (.lor, 1) := by decide +kernel
theorem d_Tx_closeReach_108 : decode prog_11_method_11_code 108 = .ok (.lastore, 1) := by decide +kernel
theorem d_Tx_closeReach_109 : decode prog_11_method_11_code 109 = .ok (.iinc 8 1, 3) := by decide +kernel
theorem d_Tx_closeReach_112 : decode prog_11_method_11_code 112 = .ok (.goto (-31), 3) := by decide +kernel
theorem d_Tx_closeReach_115 : decode prog_11_method_11_code 115 = .ok (.iinc 6 1, 3) := by decide +kernel
theorem d_Tx_closeReach_118 : decode prog_11_method_11_code 118 = .ok (.goto (-76), 3) := by decide +kernel
theorem d_Tx_closeReach_121 : decode prog_11_method_11_code 121 = .ok (.iinc 2 (-1), 3) := by decide +kernel
theorem d_Tx_closeReach_124 : decode prog_11_method_11_code 124 = .ok (.goto (-106), 3) := by decide +kernel
theorem d_Tx_closeReach_127 : decode prog_11_method_11_code 127 = .ok (.return_, 1) := by decide +kernel
/-- a way of k + 1 edges whose places between stand in m .. n -/
def ptN (E : Nat → Nat → Prop) (m n : Nat) : Nat → Nat → Nat → Prop
  | 0, a, b => E a b
  | k + 1, a, b => ∃ v, m ≤ v ∧ v < n ∧ E a v ∧ ptN E m n k v b
/-- a way -/
def pth (E : Nat → Nat → Prop) (m n a b : Nat) : Prop := ∃ k, ptN E m n k a b
theorem ptN.mono {E : Nat → Nat → Prop} {m m' n : Nat} (h : m' ≤ m) : ∀ {k a b}, ptN E m n k a b → ptN E m' n k a b
  | 0, _, _, z => z
  | k + 1, _, _, ⟨v, h1, h2, h3, h4⟩ => ⟨v, by omega, h2, h3, ptN.mono h h4⟩
theorem ptN.cat {E : Nat → Nat → Prop} {m n v b j : Nat} (h1 : m ≤ v) (h2 : v < n) (h : ptN E m n j v b) : ∀ {k a}, ptN E m n k a v → ptN E m n (k + j + 1) a b
  | 0, a, z => by
    rw [Nat.zero_add]
    exact ⟨v, h1, h2, z, h⟩
  | k + 1, a, ⟨u, z1, z2, z3, z4⟩ => by
    rw [show k + 1 + j + 1 = (k + j + 1) + 1 by omega]
    exact ⟨u, z1, z2, z3, ptN.cat h1 h2 h z4⟩
theorem ptN.split {E : Nat → Nat → Prop} {m n : Nat} : ∀ {k a b}, ptN E m n k a b → pth E (m + 1) n a b ∨ (pth E (m + 1) n a m ∧ pth E (m + 1) n m b)
  | 0, _, _, z => Or.inl ⟨0, z⟩
  | k + 1, a, b, ⟨v, h1, h2, h3, h4⟩ => by
    rcases ptN.split h4 with h | ⟨h, h'⟩
    · obtain ⟨i, hi⟩ := h
      by_cases e : v = m
      · subst e; exact Or.inr ⟨⟨0, h3⟩, i, hi⟩
      · exact Or.inl ⟨i + 1, v, by omega, h2, h3, hi⟩
    · by_cases e : v = m
      · subst e; exact Or.inr ⟨⟨0, h3⟩, h'⟩
      · obtain ⟨i, hi⟩ := h
        exact Or.inr ⟨⟨i + 1, v, by omega, h2, h3, hi⟩, h'⟩
theorem pth_step {E : Nat → Nat → Prop} {m n a b : Nat} (hm : m < n) : pth E m n a b ↔ pth E (m + 1) n a b ∨ (pth E (m + 1) n a m ∧ pth E (m + 1) n m b) := by
  constructor
  · rintro ⟨k, h⟩; exact ptN.split h
  · rintro (⟨k, h⟩ | ⟨⟨k, h⟩, ⟨j, h'⟩⟩)
    · exact ⟨k, h.mono (by omega)⟩
    · exact ⟨_, (h'.mono (by omega)).cat (Nat.le_refl _) hm (h.mono (by omega))⟩
theorem pth_none {E : Nat → Nat → Prop} {n a b : Nat} : pth E n n a b ↔ E a b := by
  constructor
  · rintro ⟨k, h⟩
    match k, h with
    | 0, h => exact h
    | k + 1, ⟨v, h1, h2, _⟩ => omega
  · intro h; exact ⟨0, h⟩
theorem pth_lt {E : Nat → Nat → Prop} {m n : Nat} (hE : ∀ a b, E a b → b < n) : ∀ {k a b}, ptN E m n k a b → b < n
  | 0, _, _, h => hE _ _ h
  | k + 1, _, _, ⟨v, _, _, _, h⟩ => pth_lt hE h
/-- the rows in the middle of a turn: those of the first s slots are new -/
def wR (P P' : Nat → Nat → Prop) (s : Nat) : Nat → Nat → Prop := fun a b => (a < s ∧ P' a b) ∨ (¬ a < s ∧ P a b)
/-- row s with the words of row q, the first w of them -/
def orW (re : Nat → Int64) (s q w : Nat) : Nat → Int64 := fun k => if s * 7 ≤ k ∧ k < s * 7 + w then re k ||| re (q * 7 + (k - s * 7)) else re k
theorem orW_0 (re : Nat → Int64) (s q : Nat) : orW re s q 0 = re := by
  funext k
  unfold orW
  rw [if_neg (by omega)]
theorem orW_at (re : Nat → Int64) {s q w : Nat} (hw : w < 7) : orW re s q w (s * 7 + w) = re (s * 7 + w) ∧ orW re s q w (q * 7 + w) = re (q * 7 + w) := by
  unfold orW
  constructor
  · rw [if_neg (by omega)]
  · by_cases e : s = q
    · subst e; rw [if_neg (by omega)]
    · rw [if_neg (by omega)]
theorem orW_s (re : Nat → Int64) {s q w : Nat} (hw : w < 7) : vp_updL (orW re s q w) (s * 7 + w) (orW re s q w (s * 7 + w) ||| orW re s q w (q * 7 + w)) = orW re s q (w + 1) := by
  obtain ⟨e1, e2⟩ := orW_at re (s := s) (q := q) hw
  rw [e1, e2]
  funext k
  by_cases e : k = s * 7 + w
  · subst e
    rw [vpL_eq]
    unfold orW
    rw [if_pos (by omega), Nat.add_sub_cancel_left]
  · rw [vpL_ne _ e]
    unfold orW
    by_cases z : s * 7 ≤ k ∧ k < s * 7 + w
    · rw [if_pos z, if_pos (by omega)]
    · rw [if_neg z, if_neg (by omega)]
theorem orW_bit {re : Nat → Int64} {s q w n : Nat} (hq : ∀ b, n ≤ b → b < 448 → btr re (q * 7) b = false) (hw : n ≤ 64 * w) (hw7 : w ≤ 7) {a b : Nat} (hb : b < 448) : btr (orW re s q w) (a * 7) b = (btr re (a * 7) b || (decide (a = s) && btr re (q * 7) b)) := by
  unfold btr orW
  by_cases e : a = s
  · subst e
    by_cases z : b / 64 < w
    · rw [if_pos (by omega), Nat.add_sub_cancel_left, Int64.toBitVec_or, BitVec.getLsbD_or]
      simp
    · rw [if_neg (by omega)]
      have h := hq b (by omega) hb
      unfold btr at h
      rw [h]; simp
  · rw [if_neg (by omega)]
    simp [e]
theorem bR.turn {re : Nat → Int64} {E : Nat → Nat → Prop} {n q s w : Nat} (hE : ∀ a b, E a b → b < n) (hqn : q < n) (hs : s < n) (hw : n ≤ 64 * w) (hw7 : w ≤ 7) (h : bR re n (wR (pth E (q + 1) n) (pth E q n) s)) (hbit : btr re (s * 7) q = true) : bR (orW re s q w) n (wR (pth E (q + 1) n) (pth E q n) (s + 1)) := by
  have hmid : ∀ b, b < 448 → (btr re (q * 7) b = true ↔ pth E (q + 1) n q b) := fun b hb => by
    rw [h q b hqn hb]
    unfold wR
    constructor
    · rintro (⟨_, z⟩ | ⟨_, z⟩)
      · rcases (pth_step hqn).mp z with z | ⟨_, z⟩
        · exact z
        · exact z
      · exact z
    · intro z
      by_cases e : q < s
      · exact Or.inl ⟨e, (pth_step hqn).mpr (Or.inl z)⟩
      · exact Or.inr ⟨e, z⟩
  have hz : ∀ b, n ≤ b → b < 448 → btr re (q * 7) b = false := fun b h1 h2 => Bool.eq_false_iff.mpr (fun z => by
    obtain ⟨k, hk⟩ := (hmid b h2).mp z
    have := pth_lt hE hk
    omega)
  have hsq : pth E (q + 1) n s q := by
    rcases (h s q hs (by omega)).mp hbit with ⟨z, _⟩ | ⟨_, z⟩
    · exact absurd z (Nat.lt_irrefl _)
    · exact z
  intro a b ha hb
  rw [orW_bit hz hw hw7 hb, Bool.or_eq_true, Bool.and_eq_true, decide_eq_true_iff, h a b ha hb, hmid b hb]
  unfold wR
  by_cases e : a = s
  · subst e
    constructor
    · rintro ((⟨z, _⟩ | ⟨_, z⟩) | ⟨_, z⟩)
      · exact absurd z (Nat.lt_irrefl _)
      · exact Or.inl ⟨by omega, (pth_step hqn).mpr (Or.inl z)⟩
      · exact Or.inl ⟨by omega, (pth_step hqn).mpr (Or.inr ⟨hsq, z⟩)⟩
    · rintro (⟨_, z⟩ | ⟨z, _⟩)
      · rcases (pth_step hqn).mp z with z | ⟨_, z⟩
        · exact Or.inl (Or.inr ⟨Nat.lt_irrefl _, z⟩)
        · exact Or.inr ⟨rfl, z⟩
      · omega
  · constructor
    · rintro ((⟨z, z'⟩ | ⟨z, z'⟩) | ⟨z, _⟩)
      · exact Or.inl ⟨by omega, z'⟩
      · exact Or.inr ⟨by omega, z'⟩
      · exact absurd z e
    · rintro (⟨z, z'⟩ | ⟨z, z'⟩)
      · exact Or.inl (Or.inl ⟨by omega, z'⟩)
      · exact Or.inl (Or.inr ⟨by omega, z'⟩)
theorem bR.stay {re : Nat → Int64} {E : Nat → Nat → Prop} {n q s : Nat} (hqn : q < n) (hs : s < n) (hn : n ≤ 400) (h : bR re n (wR (pth E (q + 1) n) (pth E q n) s)) (hbit : btr re (s * 7) q = false) : bR re n (wR (pth E (q + 1) n) (pth E q n) (s + 1)) := by
  have hsq : ¬ pth E (q + 1) n s q := fun z => by
    have := (h s q hs (by omega)).mpr (Or.inr ⟨Nat.lt_irrefl _, z⟩)
    rw [hbit] at this; cases this
  refine h.iff (fun a b ha hb => ?_)
  unfold wR
  by_cases e : a = s
  · subst e
    constructor
    · rintro (⟨z, _⟩ | ⟨_, z⟩)
      · exact absurd z (Nat.lt_irrefl _)
      · exact Or.inl ⟨by omega, (pth_step hqn).mpr (Or.inl z)⟩
    · rintro (⟨_, z⟩ | ⟨z, _⟩)
      · rcases (pth_step hqn).mp z with z | ⟨z, _⟩
        · exact Or.inr ⟨Nat.lt_irrefl _, z⟩
        · exact absurd z hsq
      · omega
  · constructor
    · rintro (⟨z, z'⟩ | ⟨z, z'⟩)
      · exact Or.inl ⟨by omega, z'⟩
      · exact Or.inr ⟨by omega, z'⟩
    · rintro (⟨z, z'⟩ | ⟨z, z'⟩)
      · exact Or.inl ⟨by omega, z'⟩
      · exact Or.inr ⟨by omega, z'⟩
theorem bR.begin {re : Nat → Int64} {P P' : Nat → Nat → Prop} {n : Nat} (h : bR re n P) : bR re n (wR P P' 0) := h.iff (fun a b _ _ => ⟨fun z => Or.inr ⟨Nat.not_lt_zero _, z⟩, fun z => z.elim (fun z => absurd z.1 (Nat.not_lt_zero _)) (fun z => z.2)⟩)
theorem bR.done {re : Nat → Int64} {P P' : Nat → Nat → Prop} {n : Nat} (h : bR re n (wR P P' n)) : bR re n P' := h.iff (fun a b ha _ => ⟨fun z => z.elim (fun z => z.2) (fun z => absurd ha z.1), fun z => Or.inl ⟨ha, z⟩⟩)
set_option maxHeartbeats 4000000 in
set_option maxRecDepth 100000 in
/-- the closure -/
theorem m_Tx_closeReach (l : Launch) (dC : Nat → ClassId) (dI : Nat → Nat → Nat) (cI cB cL cZ cR : ClassId) (h reA : Nat) (tx_order tx_length tx_size tx_unsure tx_stranded tx_dead tx_stock tx_changes tx_lines tx_loaded tx_version tx_loadedFile tx_rows tx_slots tx_deleters tx_gone tx_waits : Value) (re : Nat → Int64) (EE : Nat → Nat → Prop) (nn : Nat) (sz : Nat) (hnn : nn ≤ 400) (hEE : ∀ a b, EE a b → b < nn) (hq0 : bR re nn EE) : Met l y_Tx_closeReach ws_Tx_closeReach ({ frames := 0, cells := 0, slots := 0, locals := 0 }) (xw_Pc dC dI [(cI, .int), (cB, .byte), (cL, .long), (cZ, .boolean), (cR, .object "PatchStore$Repository")] [.ref h] [(h, .inr (10, [tx_order, tx_length, tx_size, tx_unsure, tx_stranded, tx_dead, tx_stock, tx_changes, tx_lines, tx_loaded, tx_version, tx_loadedFile, tx_rows, tx_slots, .int (nI nn), .ref reA, tx_deleters, tx_gone, tx_waits])), (reA, .inl (cL, 2800, .inr (.inl re)))] sz) (va_Qv (fun u : Nat → Int64 => bR u nn (pth EE 0 nn)) (fun u t => xw_B dC dI [(cI, .int), (cB, .byte), (cL, .long), (cZ, .boolean), (cR, .object "PatchStore$Repository")] (va_A [(h, .inr (10, [tx_order, tx_length, tx_size, tx_unsure, tx_stranded, tx_dead, tx_stock, tx_changes, tx_lines, tx_loaded, tx_version, tx_loadedFile, tx_rows, tx_slots, .int (nI nn), .ref reA, tx_deleters, tx_gone, tx_waits])), (reA, .inl (cL, 2800, .inr (.inl re)))] sz) [(h, .inr (10, [tx_order, tx_length, tx_size, tx_unsure, tx_stranded, tx_dead, tx_stock, tx_changes, tx_lines, tx_loaded, tx_version, tx_loadedFile, tx_rows, tx_slots, .int (nI nn), .ref reA, tx_deleters, tx_gone, tx_waits])), (reA, .inl (cL, 2800, .inr (.inl u)))] t) (va_A [(h, .inr (10, [tx_order, tx_length, tx_size, tx_unsure, tx_stranded, tx_dead, tx_stock, tx_changes, tx_lines, tx_loaded, tx_version, tx_loadedFile, tx_rows, tx_slots, .int (nI nn), .ref reA, tx_deleters, tx_gone, tx_waits])), (reA, .inl (cL, 2800, .inr (.inl re)))] sz)) 0 0 (va_A [(h, .inr (10, [tx_order, tx_length, tx_size, tx_unsure, tx_stranded, tx_dead, tx_stock, tx_changes, tx_lines, tx_loaded, tx_version, tx_loadedFile, tx_rows, tx_slots, .int (nI nn), .ref reA, tx_deleters, tx_gone, tx_waits])), (reA, .inl (cL, 2800, .inr (.inl re)))] sz) := by
  refine Met.ofW (cc := prog_11_method_11_code) (maxL := 9) (ret := none) (by decide) rfl ?_
  intro p e s m args below meth c s₁ B hml hv
  obtain ⟨rfl, hsz, hP, hK, hD0⟩ := hv
  have hx := B.exec
  have hb := B.bytes
  have hr := B.returns
  have hts0 := atoms_spec (ws := ws_Tx_closeReach) B.pre
  have hts : ∀ w ∈ xg_1, w.before _ s = true := fun w h => hts0 w (List.mem_cons_of_mem _ h)
  have hown : s.vm.findClass "PatchStore$Text" = some m.cls := findClass_of_methodNamed B.named
  have hlocks := B.notSynchronized
  subst hsz
  have hD := hD0.self (sz := s.heap.size)
  generalize hAe : va_A [(h, .inr (10, [tx_order, tx_length, tx_size, tx_unsure, tx_stranded, tx_dead, tx_stock, tx_changes, tx_lines, tx_loaded, tx_version, tx_loadedFile, tx_rows, tx_slots, .int (nI nn), .ref reA, tx_deleters, tx_gone, tx_waits])), (reA, .inl (cL, 2800, .inr (.inl re)))] s.heap.size = A at hD ⊢
  have hA : ∀ q : Nat, s.heap.size ≤ q → A q := fun q h => by rw [← hAe]; exact Or.inr h
  have hS : va_S A s.heap s.heap [] := va_S.rf
  have hl := lv_entry ([.ref h]) (n := 9) (Nat.le_of_ble_eq_true rfl)
  rw [lg_entry_eq]
  generalize (lg_sl ([.ref h]) ++ List.replicate (9 - (lg_sl ([.ref h])).length) Slot.unset).toArray = ls at hl ⊢
  have hl : lv_has ls 9 [(0, .ref h)] := hl
  generalize hQe : MQ _ _ _ _ _ _ _ = Q
  refine lv_aload_n hx hb d_Tx_closeReach_0 rfl (lv_at hl 0 rfl) ?_
  refine va_get (D := (dC, dI)) (ci := 10) (v := .int (nI nn)) (C := R_Tx) (T := F_Tx) (N := 19) hx hb hts i_Tx hown hK hP 0 rfl rfl 14 (by decide) (hts _ gw_396) (fun _ h9 => h9) rfl d_Tx_closeReach_1 ?_
  refine lv_bipush (v := 63) hx hb d_Tx_closeReach_4 (by decide) ?_
  refine lv_iadd hx hb d_Tx_closeReach_6 ?_
  refine lv_topi (fun x_1 ex_1 => ?_)
  obtain rfl : x_1 = nI (nn + 63) := by rw [ex_1]; first | done | (exact nI_add _ _)
  refine lv_bipush (v := 6) hx hb d_Tx_closeReach_7 (by decide) ?_
  refine lv_ishr hx hb d_Tx_closeReach_9 ?_
  refine lv_topi (fun x_2 ex_2 => ?_)
  obtain rfl : x_2 = nI ((nn + 63) / 64) := by rw [ex_2]; first | done | (exact pk_shrN (by omega) _ 6 (by decide))
  refine lv_istore_n (lv' := [(1, .int (nI ((nn + 63) / 64))), (0, .ref h)]) hx hb d_Tx_closeReach_10 rfl hl (by decide) rfl (fun ls hl => ?_)
  refine lv_aload_n hx hb d_Tx_closeReach_11 rfl (lv_at hl 1 rfl) ?_
  refine va_get (D := (dC, dI)) (ci := 10) (v := .int (nI nn)) (C := R_Tx) (T := F_Tx) (N := 19) hx hb hts i_Tx hown hK hP 0 rfl rfl 14 (by decide) (hts _ gw_396) (fun _ h9 => h9) rfl d_Tx_closeReach_12 ?_
  refine lv_iconst (v := 1) hx hb d_Tx_closeReach_15 (by decide) ?_
  refine lv_isub hx hb d_Tx_closeReach_16 ?_
  refine lv_istore_n (lv' := [(2, .int ((nI nn) - 1)), (1, .int (nI ((nn + 63) / 64))), (0, .ref h)]) hx hb d_Tx_closeReach_17 rfl hl (by decide) rfl (fun ls hl => ?_)
  have loop_18 : ∀ (n9 : Nat) (mm : Nat) (reu : Nat → Int64) (H : Heap) (locs : List Loc) (ls : Array Slot), mm < n9 → (mm ≤ nn) → (bR reu nn (pth EE mm nn)) → va_P (dC, dI) classes [(h, .inr (10, [tx_order, tx_length, tx_size, tx_unsure, tx_stranded, tx_dead, tx_stock, tx_changes, tx_lines, tx_loaded, tx_version, tx_loadedFile, tx_rows, tx_slots, .int (nI nn), .ref reA, tx_deleters, tx_gone, tx_waits])), (reA, .inl (cL, 2800, .inr (.inl reu)))] H → va_D A [(h, .inr (10, [tx_order, tx_length, tx_size, tx_unsure, tx_stranded, tx_dead, tx_stock, tx_changes, tx_lines, tx_loaded, tx_version, tx_loadedFile, tx_rows, tx_slots, .int (nI nn), .ref reA, tx_deleters, tx_gone, tx_waits])), (reA, .inl (cL, 2800, .inr (.inl reu)))] → va_S A s.heap H locs → lv_has ls 9 [(0, .ref h), (1, .int (nI ((nn + 63) / 64))), (2, .int (nI mm - 1))] → W p l e (headSpec ws_Tx_closeReach ({ frames := 0, cells := 0, slots := 0, locals := 0 })).room s m ([.ref h] : List Value).toArray below meth c H locs 0 0 Q (F0 m 18 ls []) := by
    intro n9
    induction n9 with
    | zero => intro mm reu H locs ls hm; exact absurd hm (Nat.not_lt_zero _)
    | succ n9 ih_18 =>
      intro mm reu H locs ls hm hm9 hq1 hP hD hS hl
      refine lv_iload_n hx hb d_Tx_closeReach_18 rfl (lv_at hl 2 rfl) ?_
      rcases mm with _ | q
      · refine lv_if_lt (tgt := 127) hx hb d_Tx_closeReach_19 (by decide) (fun _ => ?_) (fun c_19 => absurd (by decide) c_19)
        rw [← hQe]
        exact W.vret hx hb hr (fun t ht hW => ⟨⟨reu, rfl, hq1, by rw [ht]; exact hP, va_K.moved hW.alike hK, hD⟩, hS.F ht⟩) hS.2.2 d_Tx_closeReach_127
      · have hqe : nI (q + 1) - 1 = nI q := nI_subN (a := q + 1) (b := 1) (by omega)
        rw [hqe] at hl ⊢
        refine lv_if_lt (tgt := 127) hx hb d_Tx_closeReach_19 (by decide) (fun c_19 => absurd c_19 (nI_pos (by omega))) (fun _ => ?_)
        refine lv_iload_n hx hb d_Tx_closeReach_22 rfl (lv_at hl 2 rfl) ?_
        refine lv_bipush (v := 7) hx hb d_Tx_closeReach_23 (by decide) ?_
        refine lv_imul hx hb d_Tx_closeReach_25 ?_
        refine lv_topi (fun x_3 ex_3 => ?_)
        obtain rfl : x_3 = nI (q * 7) := by rw [ex_3]; first | done | (exact nI_mul _ _)
        refine lv_istore_n (lv' := [(3, .int (nI (q * 7))), (0, .ref h), (1, .int (nI ((nn + 63) / 64))), (2, .int (nI q))]) hx hb d_Tx_closeReach_26 rfl hl (by decide) rfl (fun ls hl => ?_)
        refine lv_iload_n hx hb d_Tx_closeReach_27 rfl (lv_at hl 3 rfl) ?_
        refine lv_bipush (v := 6) hx hb d_Tx_closeReach_28 (by decide) ?_
        refine lv_ishr hx hb d_Tx_closeReach_30 ?_
        refine lv_topi (fun x_4 ex_4 => ?_)
        obtain rfl : x_4 = nI (q / 64) := by rw [ex_4]; first | done | (exact pk_shrN (by omega) _ 6 (by decide))
        refine lv_istore (lv' := [(4, .int (nI (q / 64))), (3, .int (nI (q * 7))), (0, .ref h), (1, .int (nI ((nn + 63) / 64))), (2, .int (nI q))]) hx hb d_Tx_closeReach_31 hl (by decide) rfl (fun ls hl => ?_)
        refine lv_iload_n hx hb d_Tx_closeReach_33 rfl (lv_at hl 4 rfl) ?_
        refine lv_bipush (v := 63) hx hb d_Tx_closeReach_34 (by decide) ?_
        refine lv_iand hx hb d_Tx_closeReach_36 ?_
        refine lv_topi (fun x_5 ex_5 => ?_)
        obtain rfl : x_5 = nI (q % 64) := by rw [ex_5]; first | done | (exact pk_andN (by omega) 6 (by decide))
        refine lv_istore (lv' := [(5, .int (nI (q % 64))), (4, .int (nI (q / 64))), (3, .int (nI (q * 7))), (0, .ref h), (1, .int (nI ((nn + 63) / 64))), (2, .int (nI q))]) hx hb d_Tx_closeReach_37 hl (by decide) rfl (fun ls hl => ?_)
        refine lv_iconst (v := 0) hx hb d_Tx_closeReach_39 (by decide) ?_
        refine lv_istore (lv' := [(6, .int 0), (5, .int (nI (q % 64))), (4, .int (nI (q / 64))), (3, .int (nI (q * 7))), (0, .ref h), (1, .int (nI ((nn + 63) / 64))), (2, .int (nI q))]) hx hb d_Tx_closeReach_40 hl (by decide) rfl (fun ls hl => ?_)
        have loop_42 : ∀ (n9 : Nat) (s9 : Nat) (rev : Nat → Int64) (H : Heap) (locs : List Loc) (ls : Array Slot), nn - s9 < n9 → (s9 ≤ nn) → (bR rev nn (wR (pth EE (q + 1) nn) (pth EE q nn) s9)) → va_P (dC, dI) classes [(h, .inr (10, [tx_order, tx_length, tx_size, tx_unsure, tx_stranded, tx_dead, tx_stock, tx_changes, tx_lines, tx_loaded, tx_version, tx_loadedFile, tx_rows, tx_slots, .int (nI nn), .ref reA, tx_deleters, tx_gone, tx_waits])), (reA, .inl (cL, 2800, .inr (.inl rev)))] H → va_D A [(h, .inr (10, [tx_order, tx_length, tx_size, tx_unsure, tx_stranded, tx_dead, tx_stock, tx_changes, tx_lines, tx_loaded, tx_version, tx_loadedFile, tx_rows, tx_slots, .int (nI nn), .ref reA, tx_deleters, tx_gone, tx_waits])), (reA, .inl (cL, 2800, .inr (.inl rev)))] → va_S A s.heap H locs → lv_has ls 9 [(0, .ref h), (1, .int (nI ((nn + 63) / 64))), (2, .int (nI q)), (3, .int (nI (q * 7))), (4, .int (nI (q / 64))), (5, .int (nI (q % 64))), (6, .int (nI s9))] → W p l e (headSpec ws_Tx_closeReach ({ frames := 0, cells := 0, slots := 0, locals := 0 })).room s m ([.ref h] : List Value).toArray below meth c H locs 0 0 Q (F0 m 42 ls []) := by
          intro n9
          induction n9 with
          | zero => intro s9 rev H locs ls hm; exact absurd hm (Nat.not_lt_zero _)
          | succ n9 ih_42 =>
            intro s9 rev H locs ls hm hs9 hq2 hP hD hS hl
            refine lv_iload hx hb d_Tx_closeReach_42 (lv_at hl 6 rfl) ?_
            refine lv_aload_n hx hb d_Tx_closeReach_44 rfl (lv_at hl 0 rfl) ?_
            refine va_get (D := (dC, dI)) (ci := 10) (v := .int (nI nn)) (C := R_Tx) (T := F_Tx) (N := 19) hx hb hts i_Tx hown hK hP 0 rfl rfl 14 (by decide) (hts _ gw_396) (fun _ h9 => h9) rfl d_Tx_closeReach_45 ?_
            refine lv_icmp_ge (tgt := 121) hx hb d_Tx_closeReach_48 (by decide) (fun c_48 => ?_) (fun c_48 => ?_)
            · have n_48 : nn ≤ s9 := (nI_leI (a := nn) (b := s9) (by omega) (by omega)).mp c_48
              refine lv_iinc (v := nI q - 1) (lv' := [(2, .int (nI q - 1)), (0, .ref h), (1, .int (nI ((nn + 63) / 64))), (3, .int (nI (q * 7))), (4, .int (nI (q / 64))), (5, .int (nI (q % 64))), (6, .int (nI s9))]) hx hb d_Tx_closeReach_121 hl (k := 2) rfl (by rw [show Int32.ofInt (-1) = -1 from by decide]; exact (Int32.sub_eq_add_neg _ _).symm) (by decide) rfl (fun ls hl => ?_)
              refine lv_goto (tgt := 18) hx hb d_Tx_closeReach_124 (by decide) ?_
              exact ih_18 q rev _ _ _ (by omega) (by omega) (by rw [show s9 = nn by omega] at hq2; exact hq2.done) hP hD hS (lv_sub hl [1, 2, 0] rfl)
            · have n_48 : s9 < nn := Nat.lt_of_not_le (fun z => c_48 ((nI_leI (a := nn) (b := s9) (by omega) (by omega)).mpr z))
              refine lv_iload hx hb d_Tx_closeReach_51 (lv_at hl 6 rfl) ?_
              refine lv_bipush (v := 7) hx hb d_Tx_closeReach_53 (by decide) ?_
              refine lv_imul hx hb d_Tx_closeReach_55 ?_
              refine lv_topi (fun x_6 ex_6 => ?_)
              obtain rfl : x_6 = nI (s9 * 7) := by rw [ex_6]; first | done | (exact nI_mul _ _)
              refine lv_istore (lv' := [(7, .int (nI (s9 * 7))), (0, .ref h), (1, .int (nI ((nn + 63) / 64))), (2, .int (nI q)), (3, .int (nI (q * 7))), (4, .int (nI (q / 64))), (5, .int (nI (q % 64))), (6, .int (nI s9))]) hx hb d_Tx_closeReach_56 hl (by decide) rfl (fun ls hl => ?_)
              refine lv_aload_n hx hb d_Tx_closeReach_58 rfl (lv_at hl 1 rfl) ?_
              refine va_get (D := (dC, dI)) (ci := 10) (v := .ref reA) (C := R_Tx) (T := F_Tx) (N := 19) hx hb hts i_Tx hown hK hP 0 rfl rfl 15 (by decide) (hts _ gw_397) (fun _ h9 => h9) rfl d_Tx_closeReach_59 ?_
              refine lv_iload hx hb d_Tx_closeReach_62 (lv_at hl 0 rfl) ?_
              refine lv_iload hx hb d_Tx_closeReach_64 (lv_at hl 5 rfl) ?_
              refine lv_iadd hx hb d_Tx_closeReach_66 ?_
              refine lv_topi (fun x_7 ex_7 => ?_)
              obtain rfl : x_7 = nI ((s9 * 7) + (q / 64)) := by rw [ex_7]; first | done | (exact nI_add _ _)
              refine va_lald hx hb hK hP 1 2 rfl rfl (vp_in_nI (by omega) (by omega)) d_Tx_closeReach_67 ?_
              rw [show (nI ((s9 * 7) + (q / 64))).toNatClampNeg = ((s9 * 7) + (q / 64)) from nI_clamp (by omega)]
              refine lv_iload hx hb d_Tx_closeReach_68 (lv_at hl 6 rfl) ?_
              refine lv_lshr hx hb d_Tx_closeReach_70 rfl ?_
              refine lv_lconst (v := 1) hx hb d_Tx_closeReach_71 (by decide) ?_
              refine lv_land hx hb d_Tx_closeReach_72 ?_
              refine lv_lconst (v := 0) hx hb d_Tx_closeReach_73 (by decide) ?_
              refine W.lcmp hx hb d_Tx_closeReach_74 ?_
              refine lv_if_eq (tgt := 115) hx hb d_Tx_closeReach_75 (by decide) (fun c_75 => ?_) (fun c_75 => ?_)
              · have hbit : btr rev (s9 * 7) q = false := (bt_get _ _ (Nat.mod_lt _ (by decide))).mp c_75
                refine lv_iinc (v := nI (s9 + 1)) (lv' := [(6, .int (nI (s9 + 1))), (7, .int (nI (s9 * 7))), (0, .ref h), (1, .int (nI ((nn + 63) / 64))), (2, .int (nI q)), (3, .int (nI (q * 7))), (4, .int (nI (q / 64))), (5, .int (nI (q % 64)))]) hx hb d_Tx_closeReach_115 hl (k := 7) rfl (by exact nI_add _ _) (by decide) rfl (fun ls hl => ?_)
                refine lv_goto (tgt := 42) hx hb d_Tx_closeReach_118 (by decide) ?_
                exact ih_42 (s9 + 1) rev _ _ _ (by omega) (by omega) (hq2.stay (by omega) n_48 hnn hbit) hP hD hS (lv_sub hl [2, 3, 4, 5, 6, 7, 0] rfl)
              · have hbit : btr rev (s9 * 7) q = true := eq_true_of_ne_false (fun z => c_75 ((bt_get _ _ (Nat.mod_lt _ (by decide))).mpr z))
                refine lv_iconst (v := 0) hx hb d_Tx_closeReach_78 (by decide) ?_
                refine lv_istore (lv' := [(8, .int 0), (7, .int (nI (s9 * 7))), (0, .ref h), (1, .int (nI ((nn + 63) / 64))), (2, .int (nI q)), (3, .int (nI (q * 7))), (4, .int (nI (q / 64))), (5, .int (nI (q % 64))), (6, .int (nI s9))]) hx hb d_Tx_closeReach_79 hl (by decide) rfl (fun ls hl => ?_)
                rw [← orW_0 rev s9 q] at hP hD
                have loop_81 : ∀ (n9 : Nat) (wd : Nat) (H : Heap) (locs : List Loc) (ls : Array Slot), ((nn + 63) / 64) - wd < n9 → (wd ≤ ((nn + 63) / 64)) → va_P (dC, dI) classes [(h, .inr (10, [tx_order, tx_length, tx_size, tx_unsure, tx_stranded, tx_dead, tx_stock, tx_changes, tx_lines, tx_loaded, tx_version, tx_loadedFile, tx_rows, tx_slots, .int (nI nn), .ref reA, tx_deleters, tx_gone, tx_waits])), (reA, .inl (cL, 2800, .inr (.inl (orW rev s9 q wd))))] H → va_D A [(h, .inr (10, [tx_order, tx_length, tx_size, tx_unsure, tx_stranded, tx_dead, tx_stock, tx_changes, tx_lines, tx_loaded, tx_version, tx_loadedFile, tx_rows, tx_slots, .int (nI nn), .ref reA, tx_deleters, tx_gone, tx_waits])), (reA, .inl (cL, 2800, .inr (.inl (orW rev s9 q wd))))] → va_S A s.heap H locs → lv_has ls 9 [(0, .ref h), (1, .int (nI ((nn + 63) / 64))), (2, .int (nI q)), (3, .int (nI (q * 7))), (4, .int (nI (q / 64))), (5, .int (nI (q % 64))), (6, .int (nI s9)), (7, .int (nI (s9 * 7))), (8, .int (nI wd))] → W p l e (headSpec ws_Tx_closeReach ({ frames := 0, cells := 0, slots := 0, locals := 0 })).room s m ([.ref h] : List Value).toArray below meth c H locs 0 0 Q (F0 m 81 ls []) := by
                  intro n9
                  induction n9 with
                  | zero => intro wd H locs ls hm; exact absurd hm (Nat.not_lt_zero _)
                  | succ n9 ih_81 =>
                    intro wd H locs ls hm hwd hP hD hS hl
                    refine lv_iload hx hb d_Tx_closeReach_81 (lv_at hl 8 rfl) ?_
                    refine lv_iload_n hx hb d_Tx_closeReach_83 rfl (lv_at hl 1 rfl) ?_
                    refine lv_icmp_ge (tgt := 115) hx hb d_Tx_closeReach_84 (by decide) (fun c_84 => ?_) (fun c_84 => ?_)
                    · have n_84 : ((nn + 63) / 64) ≤ wd := (nI_leI (a := ((nn + 63) / 64)) (b := wd) (by omega) (by omega)).mp c_84
                      have hwe : wd = ((nn + 63) / 64) := by omega
                      refine lv_iinc (v := nI (s9 + 1)) (lv' := [(6, .int (nI (s9 + 1))), (0, .ref h), (1, .int (nI ((nn + 63) / 64))), (2, .int (nI q)), (3, .int (nI (q * 7))), (4, .int (nI (q / 64))), (5, .int (nI (q % 64))), (7, .int (nI (s9 * 7))), (8, .int (nI wd))]) hx hb d_Tx_closeReach_115 hl (k := 6) rfl (by exact nI_add _ _) (by decide) rfl (fun ls hl => ?_)
                      refine lv_goto (tgt := 42) hx hb d_Tx_closeReach_118 (by decide) ?_
                      exact ih_42 (s9 + 1) (orW rev s9 q wd) _ _ _ (by omega) (by omega) (hq2.turn hEE (by omega) n_48 (by omega) (by omega) hbit) hP hD hS (lv_sub hl [1, 2, 3, 4, 5, 6, 0] rfl)
                    · have n_84 : wd < ((nn + 63) / 64) := Nat.lt_of_not_le (fun z => c_84 ((nI_leI (a := ((nn + 63) / 64)) (b := wd) (by omega) (by omega)).mpr z))
                      refine lv_aload_n hx hb d_Tx_closeReach_87 rfl (lv_at hl 0 rfl) ?_
                      refine va_get (D := (dC, dI)) (ci := 10) (v := .ref reA) (C := R_Tx) (T := F_Tx) (N := 19) hx hb hts i_Tx hown hK hP 0 rfl rfl 15 (by decide) (hts _ gw_397) (fun _ h9 => h9) rfl d_Tx_closeReach_88 ?_
                      refine lv_iload hx hb d_Tx_closeReach_91 (lv_at hl 7 rfl) ?_
                      refine lv_iload hx hb d_Tx_closeReach_93 (lv_at hl 8 rfl) ?_
                      refine lv_iadd hx hb d_Tx_closeReach_95 ?_
                      refine lv_topi (fun x_8 ex_8 => ?_)
                      obtain rfl : x_8 = nI ((s9 * 7) + wd) := by rw [ex_8]; first | done | (exact nI_add _ _)
                      refine lv_dup2_11 hx hb d_Tx_closeReach_96 rfl rfl ?_
                      refine va_lald hx hb hK hP 1 2 rfl rfl (vp_in_nI (by omega) (by omega)) d_Tx_closeReach_97 ?_
                      rw [show (nI ((s9 * 7) + wd)).toNatClampNeg = ((s9 * 7) + wd) from nI_clamp (by omega)]
                      refine lv_aload_n hx hb d_Tx_closeReach_98 rfl (lv_at hl 0 rfl) ?_
                      refine va_get (D := (dC, dI)) (ci := 10) (v := .ref reA) (C := R_Tx) (T := F_Tx) (N := 19) hx hb hts i_Tx hown hK hP 0 rfl rfl 15 (by decide) (hts _ gw_397) (fun _ h9 => h9) rfl d_Tx_closeReach_99 ?_
                      refine lv_iload_n hx hb d_Tx_closeReach_102 rfl (lv_at hl 3 rfl) ?_
                      refine lv_iload hx hb d_Tx_closeReach_103 (lv_at hl 8 rfl) ?_
                      refine lv_iadd hx hb d_Tx_closeReach_105 ?_
                      refine lv_topi (fun x_9 ex_9 => ?_)
                      obtain rfl : x_9 = nI ((q * 7) + wd) := by rw [ex_9]; first | done | (exact nI_add _ _)
                      refine va_lald hx hb hK hP 1 2 rfl rfl (vp_in_nI (by omega) (by omega)) d_Tx_closeReach_106 ?_
                      rw [show (nI ((q * 7) + wd)).toNatClampNeg = ((q * 7) + wd) from nI_clamp (by omega)]
                      refine lv_lor hx hb d_Tx_closeReach_107 ?_
                      refine va_last hx hb hK hP hD hS 1 2 rfl rfl (vp_in_nI (by omega) (by omega)) d_Tx_closeReach_108 (fun H locs hP hD hS => ?_)
                      rw [show (nI ((s9 * 7) + wd)).toNatClampNeg = ((s9 * 7) + wd) from nI_clamp (by omega)] at hP hD
                      have hP : va_P (dC, dI) classes [(h, .inr (10, [tx_order, tx_length, tx_size, tx_unsure, tx_stranded, tx_dead, tx_stock, tx_changes, tx_lines, tx_loaded, tx_version, tx_loadedFile, tx_rows, tx_slots, .int (nI nn), .ref reA, tx_deleters, tx_gone, tx_waits])), (reA, .inl (cL, 2800, .inr (.inl (vp_updL (orW rev s9 q wd) ((s9 * 7) + wd) (((orW rev s9 q wd) ((s9 * 7) + wd)) ||| ((orW rev s9 q wd) ((q * 7) + wd)))))))] H := hP
                      have hD : va_D A [(h, .inr (10, [tx_order, tx_length, tx_size, tx_unsure, tx_stranded, tx_dead, tx_stock, tx_changes, tx_lines, tx_loaded, tx_version, tx_loadedFile, tx_rows, tx_slots, .int (nI nn), .ref reA, tx_deleters, tx_gone, tx_waits])), (reA, .inl (cL, 2800, .inr (.inl (vp_updL (orW rev s9 q wd) ((s9 * 7) + wd) (((orW rev s9 q wd) ((s9 * 7) + wd)) ||| ((orW rev s9 q wd) ((q * 7) + wd)))))))] := hD
                      refine lv_iinc (v := nI (wd + 1)) (lv' := [(8, .int (nI (wd + 1))), (0, .ref h), (1, .int (nI ((nn + 63) / 64))), (2, .int (nI q)), (3, .int (nI (q * 7))), (4, .int (nI (q / 64))), (5, .int (nI (q % 64))), (6, .int (nI s9)), (7, .int (nI (s9 * 7)))]) hx hb d_Tx_closeReach_109 hl (k := 8) rfl (by exact nI_add _ _) (by decide) rfl (fun ls hl => ?_)
                      refine lv_goto (tgt := 81) hx hb d_Tx_closeReach_112 (by decide) ?_
                      rw [orW_s rev (s := s9) (q := q) (w := wd) (by omega)] at hP hD
                      exact ih_81 (wd + 1) _ _ _ (by omega) (by omega) hP hD hS (lv_sub hl [1, 2, 3, 4, 5, 6, 7, 8, 0] rfl)
                exact loop_81 _ 0 _ _ _ (Nat.lt_succ_self _) (Nat.zero_le _) hP hD hS (lv_sub hl [2, 3, 4, 5, 6, 7, 8, 1, 0] rfl)
        exact loop_42 _ 0 reu _ _ _ (Nat.lt_succ_self _) (Nat.zero_le _) (hq1.begin) hP hD hS (lv_sub hl [4, 5, 6, 3, 2, 1, 0] rfl)
  exact loop_18 _ nn re _ _ _ (Nat.lt_succ_self _) (Nat.le_refl _) (hq0.iff (fun a b _ _ => pth_none.symm)) hP hD hS (lv_sub hl [2, 1, 0] rfl)
