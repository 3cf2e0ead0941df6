/-! 87.lists.lean.txt -/
/-- the sum of w over the first n -/
def sumN (w : Nat → Nat) : Nat → Nat
  | 0 => 0
  | n + 1 => sumN w n + w n
theorem sumN_congr {w v : Nat → Nat} : ∀ n, (∀ i, i < n → w i = v i) → sumN w n = sumN v n
  | 0, _ => rfl
  | n + 1, h => by
    show sumN w n + w n = sumN v n + v n
    rw [sumN_congr n (fun i z => h i (by omega)), h n (by omega)]
theorem sumN_le {w v : Nat → Nat} : ∀ n, (∀ i, i < n → w i ≤ v i) → sumN w n ≤ sumN v n
  | 0, _ => Nat.le_refl _
  | n + 1, h => by
    have h1 := sumN_le n (fun i z => h i (by omega))
    have h2 := h n (by omega)
    show sumN w n + w n ≤ sumN v n + v n
    omega
theorem sumN_out {w : Nat → Nat} {k : Nat} : ∀ n, k < n → sumN w n = sumN (fun i => if i = k then 0 else w i) n + w k
  | 0, h => absurd h (Nat.not_lt_zero _)
  | n + 1, h => by
    show sumN w n + w n = sumN (fun i => if i = k then 0 else w i) n + (if n = k then 0 else w n) + w k
    by_cases e : n = k
    · subst e
      rw [if_pos rfl, sumN_congr n (v := fun i => if i = n then 0 else w i) (fun i z => (if_neg (by omega)).symm)]
      omega
    · rw [if_neg e, sumN_out (w := w) (k := k) n (by omega)]
      omega
/-- a sum over different ones is no more than the sum over all -/
theorem sumN_inj {w B : Nat → Nat} {P : Nat} : ∀ n, (∀ i, i < n → B i < P) → (∀ i k, i < k → k < n → ¬ B i = B k) → sumN (fun i => w (B i)) n ≤ sumN w P := by
  intro n
  induction n generalizing w with
  | zero => intro _ _; exact Nat.zero_le _
  | succ n ih =>
    intro h1 h2
    have e := sumN_out (w := w) P (h1 n (by omega))
    have h := ih (w := fun i => if i = B n then 0 else w i) (fun i z => h1 i (by omega)) (fun i k z1 z2 => h2 i k z1 (by omega))
    have e2 : sumN (fun i => (fun i => if i = B n then 0 else w i) (B i)) n = sumN (fun i => w (B i)) n := sumN_congr n (fun i z => if_neg (h2 i n z (by omega)))
    rw [e2] at h
    show sumN (fun i => w (B i)) n + w (B n) ≤ _
    omega
theorem sumN_mono (w : Nat → Nat) {m : Nat} : ∀ {n}, m ≤ n → sumN w m ≤ sumN w n
  | 0, h => by rw [show m = 0 by omega]; exact Nat.le_refl _
  | n + 1, h => by
    by_cases e : m = n + 1
    · rw [e]; exact Nat.le_refl _
    · have := sumN_mono w (m := m) (n := n) (by omega)
      show sumN w m ≤ sumN w n + w n
      omega
theorem sInv.inj {S : Stk} (I : sInv S) : ∀ i k, i < k → k < S.P → ¬ S.BH i = S.BH k := fun i k h1 h2 e => by
  have := I.up i k h1 h2
  rw [e] at this
  exact absurd this (List.lt_irrefl _)
/-- the array holds the list -/
def arrL (A : Nat → Int32) (L : List Nat) : Prop := ∀ i, i < L.length → A i = nI (L.getD i 0)
theorem arrL.nil (A : Nat → Int32) : arrL A [] := fun i h => absurd h (Nat.not_lt_zero _)
theorem arrL.push {A : Nat → Int32} {L : List Nat} (x : Nat) (h : arrL A L) : arrL (upd A L.length (nI x)) (L ++ [x]) := by
  intro i hi
  rw [List.length_append] at hi
  have hi : i < L.length + 1 := hi
  by_cases e : i = L.length
  · subst e
    rw [upd_eq, List.getD_eq_getElem?_getD, List.getElem?_append_right (Nat.le_refl _), Nat.sub_self]
    rfl
  · rw [upd_ne _ e, h i (by omega), List.getD_eq_getElem?_getD, List.getD_eq_getElem?_getD, List.getElem?_append_left (by omega)]
/-- n numbers from a on -/
def seqL (a : Nat) : Nat → List Nat
  | 0 => []
  | n + 1 => seqL a n ++ [a + n]
theorem seqL_len (a : Nat) : ∀ n, (seqL a n).length = n
  | 0 => rfl
  | n + 1 => by
    show (seqL a n ++ [a + n]).length = n + 1
    rw [List.length_append, seqL_len a n]; rfl
theorem seqL_mem {a x : Nat} : ∀ {n}, x ∈ seqL a n ↔ a ≤ x ∧ x < a + n
  | 0 => by
    show x ∈ [] ↔ _
    constructor
    · intro h; cases h
    · intro h; omega
  | n + 1 => by
    show x ∈ seqL a n ++ [a + n] ↔ _
    rw [List.mem_append, seqL_mem (n := n), List.mem_singleton]
    omega
/-- the changes of the patches of the set, by hash: those of the first i patches -/
def allU (S : Stk) (mw : Nat → Int64) : Nat → List Nat
  | 0 => []
  | i + 1 => allU S mw i ++ (if bt mw (S.BH i) = true then seqL (S.FC (S.BH i)) (S.nT (S.BH i)) else [])
/-- the change adds a file -/
def adB (S : Stk) (c : Nat) : Bool := S.f (S.CA c) == 0
/-- the change is a naming -/
def nmB (S : Stk) (c : Nat) : Bool := S.f (S.CA c) == 0 || (S.f (S.CA c) == 1 && !(S.f (nmAt S.f (S.CA c)) == 0))
theorem nmB_iff {S : Stk} {c : Nat} : nmB S c = true ↔ isNm S.f (S.CA c) := by
  unfold nmB isNm
  simp
theorem adB_iff {S : Stk} {c : Nat} : adB S c = true ↔ S.f (S.CA c) = 0 := by
  unfold adB
  simp
theorem ad_nm {S : Stk} {c : Nat} (h : adB S c = true) : nmB S c = true := nmB_iff.mpr (Or.inl (adB_iff.mp h))
/-- the number of those of a list that are so -/
def numL (b : Nat → Bool) (L : List Nat) : Nat := (L.filter b).length
theorem numL_app (b : Nat → Bool) (L M : List Nat) : numL b (L ++ M) = numL b L + numL b M := by
  unfold numL
  rw [List.filter_append, List.length_append]
theorem numL_one (b : Nat → Bool) (x : Nat) : numL b [x] = if b x then 1 else 0 := by
  unfold numL
  cases h : b x <;> simp [h]
theorem numL_ad {S : Stk} {NF0 c0 : Nat} : ∀ n, NF0 + numL (adB S) (seqL c0 n) = NFs S.f S.CA c0 NF0 n
  | 0 => rfl
  | n + 1 => by
    show NF0 + numL (adB S) (seqL c0 n ++ [c0 + n]) = NFX S.f (NFs S.f S.CA c0 NF0 n) (S.CA (c0 + n))
    rw [numL_app, numL_one, ← numL_ad n]
    unfold NFX
    by_cases e : S.f (S.CA (c0 + n)) = 0
    · rw [if_pos (adB_iff.mpr e), if_pos e]; rfl
    · rw [if_neg (fun z => e (adB_iff.mp z)), if_neg e]; rfl
theorem calR.len {f : Nat → Int32} {en a b : Nat} (h : calR f en a b) (hn : ¬ f (nmAt f a) = 0) (h1 : f a = 1) (hz : b8 (f (a + 5)) = 0 → f (a + 5) = 0) : a + 12 ≤ b := by
  obtain ⟨q1, q2, q3, n, q4, q5, q6, q7, q8, q9⟩ := h
  have e : nmAt f a = a + 6 + 4 * b8 (f (a + 5)) := if_neg (by rw [h1]; decide)
  rw [e, q5] at hn
  have h5 : 1 ≤ n := by
    rcases Nat.eq_zero_or_pos n with z | z
    · rw [z] at hn; exact absurd rfl hn
    · exact z
  have h6 : 1 ≤ b8 (f (a + 5)) := by
    rcases Nat.eq_zero_or_pos (b8 (f (a + 5))) with z | z
    · exact absurd (hz z) q2
    · exact z
  omega
/-- no more namings than the bytes have room for -/
theorem numL_nm {S : Stk} {en a c0 T : Nat} (h : chain S.f en a T) (hA : ∀ j, j < T → S.CA (c0 + j) = sS S.f en a j) (hb : ∀ j, j < en → b8 (S.f j) = 0 → S.f j = 0) : ∀ n, n ≤ T → 12 * numL (nmB S) (seqL c0 n) + a ≤ sS S.f en a n + 5 * numL (adB S) (seqL c0 n)
  | 0, _ => by show 12 * 0 + a ≤ a + 5 * 0; omega
  | n + 1, hn => by
    have ih := numL_nm h hA hb n (by omega)
    have hc := (h n (by omega)).2
    have hl := hc.le
    have hw := hc.W.1
    show 12 * numL (nmB S) (seqL c0 n ++ [c0 + n]) + a ≤ sS S.f en a (n + 1) + 5 * numL (adB S) (seqL c0 n ++ [c0 + n])
    rw [numL_app, numL_app, numL_one, numL_one]
    by_cases e0 : S.f (S.CA (c0 + n)) = 0
    · rw [if_pos (adB_iff.mpr e0), if_pos (ad_nm (adB_iff.mpr e0))]
      omega
    · rw [if_neg (fun z => e0 (adB_iff.mp z))]
      by_cases e1 : nmB S (c0 + n) = true
      · rw [if_pos e1]
        rcases nmB_iff.mp e1 with z | ⟨z1, z2⟩
        · exact absurd z e0
        · rw [hA n (by omega)] at z1 z2
          have := (chR_1 z1 hc).len z2 z1 (hb _ hw)
          omega
      · rw [if_neg e1]
        omega
theorem allU_num {S : Stk} {mw : Nat → Int64} (b : Nat → Bool) : ∀ i, numL b (allU S mw i) ≤ sumN (fun k => numL b (seqL (S.FC (S.BH k)) (S.nT (S.BH k)))) i
  | 0 => Nat.le_refl _
  | i + 1 => by
    have ih := allU_num (S := S) (mw := mw) b i
    show numL b (allU S mw i ++ _) ≤ sumN _ i + numL b (seqL (S.FC (S.BH i)) (S.nT (S.BH i)))
    rw [numL_app]
    by_cases e : bt mw (S.BH i) = true
    · rw [if_pos e]; omega
    · rw [if_neg e]
      show _ + 0 ≤ _
      omega
theorem sInv.adsum {S : Stk} (I : sInv S) : ∀ n, n ≤ S.P → sumN (fun p => numL (adB S) (seqL (S.FC p) (S.nT p))) n = S.NFp n
  | 0, _ => I.nf0.symm
  | n + 1, h => by
    have ih := I.adsum n (by omega)
    have e := (I.pi n (by omega)).nf
    have e2 := numL_ad (S := S) (NF0 := S.NFp n) (c0 := S.FC n) (S.nT n)
    show sumN _ n + numL (adB S) (seqL (S.FC n) (S.nT n)) = _
    rw [ih, e2, e]
theorem sInv.nmsum {S : Stk} (I : sInv S) (hb : ∀ j, j < S.FR S.P → b8 (S.f j) = 0 → S.f j = 0) : ∀ n, n ≤ S.P → 12 * sumN (fun p => numL (nmB S) (seqL (S.FC p) (S.nT p))) n ≤ S.FR n + 5 * sumN (fun p => numL (adB S) (seqL (S.FC p) (S.nT p))) n
  | 0, _ => Nat.zero_le _
  | n + 1, h => by
    have ih := I.nmsum hb n (by omega)
    have p := I.pi n (by omega)
    have m1 := I.frm (i := n + 1) (k := S.P) h (Nat.le_refl _)
    have h1 := numL_nm (c0 := S.FC n) p.kept.2.2.2.2.1 p.ca (fun j z => hb j (by omega)) (S.nT n) (Nat.le_refl _)
    have h2 : sS S.f (S.FR (n + 1)) (S.FR n + 2 + tw S.f (S.FR n) * 32 + 2) (S.nT n) = S.FR (n + 1) := p.kept.2.2.2.2.2
    rw [h2] at h1
    show 12 * (sumN _ n + numL (nmB S) (seqL (S.FC n) (S.nT n))) ≤ S.FR (n + 1) + 5 * (sumN _ n + numL (adB S) (seqL (S.FC n) (S.nT n)))
    omega
/-- there is room for the files and for the namings of a set -/
theorem sInv.fits {S : Stk} (I : sInv S) (hb : ∀ j, j < S.FR S.P → b8 (S.f j) = 0 → S.f j = 0) {mw : Nat → Int64} {i j : Nat} (hi : i < S.P) (hj : j ≤ S.nT (S.BH i)) : numL (adB S) (allU S mw i ++ seqL (S.FC (S.BH i)) j) ≤ 200 ∧ numL (nmB S) (allU S mw i ++ seqL (S.FC (S.BH i)) j) ≤ 16750 := by
  have mono : ∀ (b : Nat → Bool) (a n m : Nat), n ≤ m → numL b (seqL a n) ≤ numL b (seqL a m) := by
    intro b a n m h
    induction m with
    | zero => rw [show n = 0 by omega]; exact Nat.le_refl _
    | succ m ih =>
      by_cases e : n = m + 1
      · rw [e]; exact Nat.le_refl _
      · have := ih (by omega)
        show _ ≤ numL b (seqL a m ++ [a + m])
        rw [numL_app]; omega
  have key : ∀ b : Nat → Bool, numL b (allU S mw i ++ seqL (S.FC (S.BH i)) j) ≤ sumN (fun p => numL b (seqL (S.FC p) (S.nT p))) S.P := by
    intro b
    rw [numL_app]
    have h1 := allU_num (S := S) (mw := mw) b i
    have h2 := mono b (S.FC (S.BH i)) j _ hj
    have h3 := sumN_inj (w := fun p => numL b (seqL (S.FC p) (S.nT p))) (B := S.BH) (P := S.P) (i + 1) (fun k z => I.bh k (by omega)) (fun a k z1 z2 => I.inj a k z1 (by omega))
    have h4 : sumN (fun k => numL b (seqL (S.FC (S.BH k)) (S.nT (S.BH k)))) i + numL b (seqL (S.FC (S.BH i)) (S.nT (S.BH i))) ≤ sumN (fun p => numL b (seqL (S.FC p) (S.nT p))) S.P := h3
    omega
  have k1 := key (adB S)
  have k2 := key (nmB S)
  have e1 := I.adsum S.P (Nat.le_refl _)
  have e2 := I.nmsum hb S.P (Nat.le_refl _)
  have e3 := I.nfP
  have e4 := I.frP
  constructor
  · omega
  · omega

