/-! 82.cand.lean.txt -/
theorem sInv.cfl {S : Stk} (I : sInv S) {i : Nat} (hi : i < S.FC S.P) : S.CF i < S.NFp S.P := by
  suffices h : ∀ k, k ≤ S.P → ∀ i, i < S.FC k → S.CF i < S.NFp k from h _ (Nat.le_refl _) i hi
  intro k
  induction k with
  | zero => intro _ i h; rw [I.fc0] at h; exact absurd h (Nat.not_lt_zero _)
  | succ k ih =>
    intro hk i h
    have p := I.pi k (by omega)
    rw [p.fc] at h
    rw [p.nf]
    exact rsA.lt (fun q z => (p.dep q z).1) (fun q z => I.fcm (by omega) (by omega)) (ih (by omega)) p.rs i h
theorem sInv.cll {S : Stk} (I : sInv S) {i : Nat} (hi : i < S.FC S.P) : S.CL i ≤ 4000 := by
  obtain ⟨p, j, h1, h2, rfl⟩ := I.own (Nat.le_refl _) hi
  have q := I.pi p h1
  rw [q.cl j h2]
  have e1 := NLs_mono S.f S.CA (S.FC p) (S.NLp p) (i := j) (j := S.nT p) (by omega)
  rw [← q.nl] at e1
  have e2 := I.nlm (i := p + 1) (k := S.P) (by omega) (Nat.le_refl _)
  have e3 := I.nlP
  omega
theorem insR.len {f : Nat → Int32} {en a b : Nat} (h : insR f en a b) : a + tw f (lnAt f a) ≤ b := by
  obtain ⟨q1, q2, p1, p2, p3, p4, p5⟩ := h
  have e : lnAt f a = q2 := by unfold lnAt; rw [p1.end, p2.end]
  have l1 := p1.le
  have l2 := p2.le
  have e2 := lnsR.end p5
  have e3 := lnP_ge f (q2 + 2) (tw f q2)
  rw [e]
  omega
theorem NLs_len {f : Nat → Int32} {CA : Nat → Nat} {c0 NL0 en a T : Nat} (h : chain f en a T) (hA : ∀ j, j < T → CA (c0 + j) = sS f en a j) : ∀ j, j ≤ T → NLs f CA c0 NL0 j + a ≤ NL0 + sS f en a j
  | 0, _ => Nat.le_refl _
  | j + 1, hj => by
    have ih := NLs_len (NL0 := NL0) h hA j (by omega)
    have hc := (h j (by omega)).2
    have hl := hc.le
    by_cases e : f (CA (c0 + j)) = 2
    · rw [NLs_eq e, hA j (by omega)]
      rw [hA j (by omega)] at e
      have := (chR_2 e hc).len
      omega
    · rw [NLs_ne e]
      omega
theorem chR.V {f : Nat → Int32} {en a b : Nat} (he : en ≤ 288900) (ha : a < en) (h : chR f en a b) : chV f a := by
  have w := h.W
  have b5 := b8_lt (f (a + 5))
  refine ⟨by omega, h.kd, fun _ => by omega, fun e => ?_, fun e => by omega, fun e => by omega⟩
  obtain ⟨w1, w2, w3, w4⟩ := w.2.2.1 e
  exact ⟨by omega, by omega, by omega⟩
theorem nmU_pt {f : Nat → Int32} {nd k n : Nat} {g g' : Nat → Int32} (h : ∀ i, i < n → g i = g' i) : ∀ i, i < n → nmU f nd k g i = nmU f nd k g' i := by
  intro i hi
  unfold nmU
  by_cases e : tw f k < nd
  · rw [if_pos e, if_pos e]
    by_cases z : i = tw f k
    · rw [z, upd_eq, upd_eq]
    · rw [upd_ne _ z, upd_ne _ z, h i hi]
  · rw [if_neg e, if_neg e, h i hi]
theorem nmUs_pt {f : Nat → Int32} {nd k n : Nat} {g g' : Nat → Int32} (h : ∀ i, i < n → g i = g' i) : ∀ m i, i < n → nmUs f nd k m g i = nmUs f nd k m g' i
  | 0, i, hi => h i hi
  | m + 1, i, hi => nmU_pt (nmUs_pt h m) i hi
theorem nmX_pt {f : Nat → Int32} {nd a n : Nat} {g g' : Nat → Int32} (h : ∀ i, i < n → g i = g' i) : ∀ i, i < n → nmX f nd a g i = nmX f nd a g' i := by
  intro i hi
  unfold nmX
  by_cases e0 : f a = 0
  · rw [if_pos e0, if_pos e0, h i hi]
  rw [if_neg e0, if_neg e0]
  by_cases e1 : f a = 1
  · rw [if_pos e1, if_pos e1]; exact nmUs_pt (nmU_pt h) _ i hi
  rw [if_neg e1, if_neg e1]
  by_cases e2 : f a = 2
  · rw [if_pos e2, if_pos e2]
    unfold nmI
    by_cases z1 : f (a + 5) = 0 <;> by_cases z2 : f (plEnd f (a + 5)) = 0
    · rw [if_pos z2, if_pos z2, if_pos z1, if_pos z1]; exact nmU_pt h i hi
    · rw [if_neg z2, if_neg z2, if_pos z1, if_pos z1]; exact nmU_pt (nmU_pt h) i hi
    · rw [if_pos z2, if_pos z2, if_neg z1, if_neg z1]; exact nmU_pt (nmU_pt h) i hi
    · rw [if_neg z2, if_neg z2, if_neg z1, if_neg z1]; exact nmU_pt (nmU_pt (nmU_pt h)) i hi
  rw [if_neg e2, if_neg e2]
  by_cases e3 : f a = 3
  · rw [if_pos e3, if_pos e3]; exact nmU_pt h i hi
  rw [if_neg e3, if_neg e3]
  exact nmU_pt (nmU_pt h) i hi
theorem nmXs_pt {f : Nat → Int32} {nd c0 n : Nat} {CA : Nat → Nat} {g g' : Nat → Int32} (h : ∀ i, i < n → g i = g' i) : ∀ j i, i < n → nmXs f nd CA c0 j g i = nmXs f nd CA c0 j g' i
  | 0, i, hi => h i hi
  | j + 1, i, hi => nmX_pt (nmXs_pt h j) i hi
theorem lcs_out {f : Nat → Int32} {CA CF LO : Nat → Nat} {c0 y : Nat} : ∀ {j}, (∀ i, i < j → f (CA (c0 + i)) = 2 → ¬ y = CF (c0 + i)) → lcs f CA CF c0 j LO y = LO y
  | 0, _ => rfl
  | j + 1, h => by
    have ih := lcs_out (j := j) (LO := LO) (fun i z => h i (by omega))
    by_cases e : f (CA (c0 + j)) = 2
    · rw [lcs_eq e, upN_ne _ (h j (by omega) e), ih]
    · rw [lcs_ne e, ih]
/-- what is known of a candidate that has the form of bytes -/
def cK (S : Stk) (Z : StkA) (en : Nat) : Prop := sInv S ∧ rep S Z ∧ kept Z.by' (S.FR S.P) en ∧ en ≤ 288900 ∧ S.FC S.P + tw Z.by' (S.FR S.P + 2 + tw Z.by' (S.FR S.P) * 32) ≤ 38000 ∧ en ≤ S.FR S.P + 88900
theorem cK.hT {S : Stk} {Z : StkA} {en : Nat} (I : sInv S) (R : rep S Z) (hk : kept Z.by' (S.FR S.P) en) (he : en ≤ S.FR S.P + 88900) (hr : ∀ i, i < tw Z.by' (S.FR S.P + 2 + tw Z.by' (S.FR S.P) * 32) → S.FR S.P + 4 + 7 * i < en → S.FC S.P + i < 38000) : cK S Z en := by
  have h1 := hk.len
  have h2 := hk.2.2.2.1
  have h3 := hr (tw Z.by' (S.FR S.P + 2 + tw Z.by' (S.FR S.P) * 32) - 1) (by omega) (by omega)
  have h4 := I.frP
  exact ⟨I, R, hk, by omega, by omega, he⟩
section
variable {S : Stk} {Z : StkA} {en : Nat}
theorem cK.chg (K : cK S Z en) {j : Nat} (hj : j < tw Z.by' (S.FR S.P + 2 + tw Z.by' (S.FR S.P) * 32)) : caX S Z.by' en (S.FC S.P + j) < en ∧ chR Z.by' en (caX S Z.by' en (S.FC S.P + j)) (sS Z.by' en (S.FR S.P + 2 + tw Z.by' (S.FR S.P) * 32 + 2) (j + 1)) := by
  rw [caX_ge]
  exact K.2.2.1.2.2.2.2.1 j hj
theorem cK.w (K : cK S Z en) {x : Nat} (hx : x < S.FC S.P + tw Z.by' (S.FR S.P + 2 + tw Z.by' (S.FR S.P) * 32)) : chW Z.by' en (caX S Z.by' en x) := by
  obtain ⟨I, R, hk, he, hT⟩ := K
  by_cases e : x < S.FC S.P
  · rw [caX_lt e]
    exact (chW_cg R.byt (I.chw (Nat.le_refl _) e)).mono (by have := hk.len; omega)
  · obtain ⟨j, rfl⟩ : ∃ j, x = S.FC S.P + j := ⟨x - S.FC S.P, by omega⟩
    exact (cK.chg ⟨I, R, hk, he, hT⟩ (by omega)).2.W
theorem cK.gA (K : cK S Z en) {uc : Nat → Int32} (h1 : ∀ i, i < S.FC S.P → uc i = Z.ca i) (h2 : ∀ j, j < tw Z.by' (S.FR S.P + 2 + tw Z.by' (S.FR S.P) * 32) → uc (S.FC S.P + j) = nI (sS Z.by' en (S.FR S.P + 2 + tw Z.by' (S.FR S.P) * 32 + 2) j)) : ∀ i, i < S.FC S.P + tw Z.by' (S.FR S.P + 2 + tw Z.by' (S.FR S.P) * 32) → uc i = nI (caX S Z.by' en i) ∧ caX S Z.by' en i + 5 < 290000 := by
  intro i hi
  have w := (K.w hi).1
  have he := K.2.2.2.1
  refine ⟨?_, by omega⟩
  by_cases e : i < S.FC S.P
  · rw [caX_lt e, h1 i e]; exact K.2.1.ca i e
  · obtain ⟨j, rfl⟩ : ∃ j, i = S.FC S.P + j := ⟨i - S.FC S.P, by omega⟩
    rw [caX_ge, h2 j (by omega)]
theorem cK.gI (K : cK S Z en) : ∀ i, i < S.FC S.P + tw Z.by' (S.FR S.P + 2 + tw Z.by' (S.FR S.P) * 32) → Z.by' (caX S Z.by' en i) = 2 → plEnd Z.by' (caX S Z.by' en i + 5) < 290000 ∧ lnAt Z.by' (caX S Z.by' en i) + 1 < 290000 := by
  intro i hi e
  obtain ⟨w1, w2, w3, w4⟩ := (K.w hi).2.2.1 e
  have he := K.2.2.2.1
  exact ⟨by omega, by omega⟩
theorem cK.gN (K : cK S Z en) : ∀ i, i < S.FC S.P + tw Z.by' (S.FR S.P + 2 + tw Z.by' (S.FR S.P) * 32) → Z.by' (caX S Z.by' en i) = 1 → nmAt Z.by' (caX S Z.by' en i) < 290000 := by
  intro i hi e
  have w := (K.w hi).2.1 e
  have he := K.2.2.2.1
  have e1 : nmAt Z.by' (caX S Z.by' en i) = caX S Z.by' en i + 6 + 4 * b8 (Z.by' (caX S Z.by' en i + 5)) := if_neg (by rw [e]; decide)
  omega
theorem cK.gCL (K : cK S Z en) : ∀ i, i < S.FC S.P → Z.by' (caX S Z.by' en i) = 2 → Z.fl i = nI (S.CL i) ∧ S.CL i < 200000 := by
  intro i hi e
  have w := (K.1.chw (Nat.le_refl _) hi).1
  rw [caX_lt hi, ← K.2.1.byt _ (by omega)] at e
  have := K.1.cll hi
  exact ⟨K.2.1.fl i hi e, by omega⟩
theorem cK.gV (K : cK S Z en) : ∀ i, S.FC S.P ≤ i → i < S.FC S.P + tw Z.by' (S.FR S.P + 2 + tw Z.by' (S.FR S.P) * 32) → chV Z.by' (caX S Z.by' en i) := by
  intro i h1 h2
  obtain ⟨j, rfl⟩ : ∃ j, i = S.FC S.P + j := ⟨i - S.FC S.P, by omega⟩
  have c := K.chg (j := j) (by omega)
  exact c.2.V K.2.2.2.1 c.1
theorem cK.gNL (K : cK S Z en) : ∀ j, j ≤ tw Z.by' (S.FR S.P + 2 + tw Z.by' (S.FR S.P) * 32) → NLs Z.by' (caX S Z.by' en) (S.FC S.P) (S.NLp S.P) j < 200000 := by
  intro j hj
  have h := NLs_len (NL0 := S.NLp S.P) K.2.2.1.2.2.2.2.1 (CA := caX S Z.by' en) (c0 := S.FC S.P) (fun q _ => caX_ge) j hj
  have h1 := K.1.nlP
  have h2 : sS Z.by' en (S.FR S.P + 2 + tw Z.by' (S.FR S.P) * 32 + 2) j ≤ en := by
    match j with
    | 0 => have := K.2.2.1.2.1; exact this
    | q + 1 => exact ((K.2.2.1.2.2.2.2.1 q (by omega)).2.le).2
  have h3 := K.2.2.2.2.2
  omega
theorem cK.gP (K : cK S Z en) : ∀ c, S.FC S.P ≤ c → c < S.FC S.P + tw Z.by' (S.FR S.P + 2 + tw Z.by' (S.FR S.P) * 32) → Z.by' (caX S Z.by' en c) = 2 → ∀ i, i < tw Z.by' (lnAt Z.by' (caX S Z.by' en c)) → lnP Z.by' (lnAt Z.by' (caX S Z.by' en c) + 2) i + 2 + tw Z.by' (lnP Z.by' (lnAt Z.by' (caX S Z.by' en c) + 2) i) < 290000 := by
  intro c h1 h2 e i hi
  obtain ⟨j, rfl⟩ : ∃ j, c = S.FC S.P + j := ⟨c - S.FC S.P, by omega⟩
  have q := (insR.P (chR_2 e (K.chg (j := j) (by omega)).2) i hi)
  have he := K.2.2.2.1
  have := q.2.2.2.1
  omega
theorem cK.gF (K : cK S Z en) {hs : Nat → Int32} {mw : Nat → Int64} {CF1 : Nat → Nat} (R : ∀ i, i < S.P * 32 → hs i = S.hf i) (hD : dpOk S Z.by' hs mw) (hC : cfOk S Z.by' hs en CF1) : ∀ i, i < S.FC S.P + tw Z.by' (S.FR S.P + 2 + tw Z.by' (S.FR S.P) * 32) → CF1 i < NFs Z.by' (caX S Z.by' en) (S.FC S.P) (S.NFp S.P) (tw Z.by' (S.FR S.P + 2 + tw Z.by' (S.FR S.P) * 32)) :=
  rsA.lt (fun q z => (dpN_ok K.1 R hD q z).1) (fun q z => K.1.fcm (by omega) (Nat.le_refl _)) (fun i z => by rw [hC.1 i z]; exact K.1.cfl z) hC.2
end

