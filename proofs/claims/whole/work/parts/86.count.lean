/-! 86.count.lean.txt -/
/-- how many of the first n are so -/
def cnt (b : Nat → Bool) : Nat → Nat
  | 0 => 0
  | n + 1 => cnt b n + (if b n then 1 else 0)
theorem cnt_congr {b c : Nat → Bool} : ∀ n, (∀ i, i < n → b i = c i) → cnt b n = cnt c n
  | 0, _ => rfl
  | n + 1, h => by
    show cnt b n + (if b n then 1 else 0) = cnt c n + (if c n then 1 else 0)
    rw [cnt_congr n (fun i z => h i (by omega)), h n (by omega)]
theorem cnt_le (b : Nat → Bool) : ∀ n, cnt b n ≤ n
  | 0 => Nat.le_refl _
  | n + 1 => by
    have := cnt_le b n
    show cnt b n + (if b n then 1 else 0) ≤ n + 1
    split <;> omega
theorem cnt_add (b : Nat → Bool) (m : Nat) : ∀ n, cnt b (m + n) = cnt b m + cnt (fun i => b (m + i)) n
  | 0 => rfl
  | n + 1 => by
    show cnt b (m + n) + (if b (m + n) then 1 else 0) = cnt b m + (cnt (fun i => b (m + i)) n + (if b (m + n) then 1 else 0))
    rw [cnt_add b m n, Nat.add_assoc]
theorem cnt_zero {b : Nat → Bool} : ∀ n, (∀ i, i < n → b i = false) → cnt b n = 0
  | 0, _ => rfl
  | n + 1, h => by
    show cnt b n + (if b n then 1 else 0) = 0
    rw [cnt_zero n (fun i z => h i (by omega)), h n (by omega)]
    rfl
theorem cnt_pos {b : Nat → Bool} : ∀ {n}, 0 < cnt b n → ∃ i, i < n ∧ b i = true
  | 0, h => absurd h (Nat.not_lt_zero _)
  | n + 1, h => by
    have h : 0 < cnt b n + (if b n then 1 else 0) := h
    cases hb : b n with
    | true => exact ⟨n, by omega, hb⟩
    | false =>
      rw [hb] at h
      obtain ⟨i, h1, h2⟩ := cnt_pos (b := b) (n := n) h
      exact ⟨i, by omega, h2⟩
theorem cnt_of {b : Nat → Bool} {i : Nat} : ∀ {n}, i < n → b i = true → 0 < cnt b n
  | 0, h, _ => absurd h (Nat.not_lt_zero _)
  | n + 1, h, hb => by
    show 0 < cnt b n + (if b n then 1 else 0)
    by_cases e : i = n
    · subst e; rw [hb]; simp
    · have := cnt_of (b := b) (n := n) (i := i) (by omega) hb
      omega
/-- those that come newly -/
theorem cnt_or (b c : Nat → Bool) : ∀ n, cnt (fun i => b i || c i) n = cnt b n + cnt (fun i => c i && !b i) n
  | 0 => rfl
  | n + 1 => by
    have ih := cnt_or b c n
    show cnt (fun i => b i || c i) n + (if (b n || c n) then 1 else 0) = (cnt b n + (if b n then 1 else 0)) + (cnt (fun i => c i && !b i) n + (if (c n && !b n) then 1 else 0))
    rw [ih]
    cases b n <;> cases c n <;> simp <;> omega
theorem cnt_in {b c : Nat → Bool} {k : Nat} (h : ∀ i, c i = (b i || decide (i = k))) (hb : b k = false) : ∀ n, cnt c n = cnt b n + (if k < n then 1 else 0)
  | 0 => rfl
  | n + 1 => by
    have ih := cnt_in h hb n
    show cnt c n + (if c n then 1 else 0) = cnt b n + (if b n then 1 else 0) + (if k < n + 1 then 1 else 0)
    rw [ih, h n]
    have hk : (if k < n + 1 then 1 else 0) = (if k < n then 1 else 0) + (if n = k then 1 else 0) := by
      by_cases e : n = k
      · rw [if_pos e, if_neg (show ¬ k < n by omega), if_pos (show k < n + 1 by omega)]
      · by_cases z : k < n
        · rw [if_neg e, if_pos z, if_pos (show k < n + 1 by omega)]
        · rw [if_neg e, if_neg z, if_neg (show ¬ k < n + 1 by omega)]
    rw [hk]
    by_cases e : n = k
    · subst e; rw [hb]; simp
    · simp [e]; omega
theorem cnt_un {b c : Nat → Bool} {k : Nat} (h : ∀ i, c i = (b i && !decide (i = k))) (hb : b k = true) : ∀ n, cnt b n = cnt c n + (if k < n then 1 else 0) := by
  refine cnt_in (fun i => ?_) (by rw [h]; simp)
  rw [h i]
  by_cases e : i = k
  · subst e; simp [hb]
  · simp [e]
theorem pb_cnt (x : Nat) : ∀ n, pb x n = cnt (fun i => x.testBit i) n
  | 0 => rfl
  | n + 1 => by
    show pb x n + _ = cnt _ n + _
    rw [pb_cnt x n]
theorem nI_addc (a b : Nat) : nI a + nI b = nI (a + b) := nI_add a b
theorem bcs_num (w : Nat → Int64) : ∀ n, bcs w n = nI (cnt (bt w) (64 * n))
  | 0 => rfl
  | n + 1 => by
    show bcs w n + bc (w n) = _
    rw [bcs_num w n, bc_num, nI_addc, show 64 * (n + 1) = 64 * n + 64 from rfl, cnt_add, pb_cnt]
    congr 2
    refine cnt_congr 64 (fun i hi => ?_)
    show (w n).toBitVec.toNat.testBit i = (w ((64 * n + i) / 64)).toBitVec.getLsbD ((64 * n + i) % 64)
    rw [show (64 * n + i) / 64 = n by omega, show (64 * n + i) % 64 = i by omega]
    rfl
theorem bt_and (w x : Nat → Int64) (o n : Nat) : bt (fun i => w (o + i) &&& x i) n = (btr w o n && bt x n) := by
  show (w (o + n / 64) &&& x (n / 64)).toBitVec.getLsbD (n % 64) = _
  rw [Int64.toBitVec_and, BitVec.getLsbD_and]
  rfl

