/-! 78.alike.lean.txt -/
theorem sh_outb_congr {f f' : Nat → Int32} {k : Nat} (h : ∀ j, j < 8 → f j = f' j) (hk : k < 32) : sh_outb f k = sh_outb f' k := by
  unfold sh_outb
  rw [h (k / 4) (by omega)]
theorem NFs_cg {f g : Nat → Int32} {CA CA' : Nat → Nat} {c0 NF0 : Nat} : ∀ {j}, (∀ i, i < j → CA (c0 + i) = CA' (c0 + i) ∧ f (CA (c0 + i)) = g (CA (c0 + i))) → NFs f CA c0 NF0 j = NFs g CA' c0 NF0 j
  | 0, _ => rfl
  | j + 1, h => by
    have h1 := NFs_cg (j := j) (fun i z => h i (by omega)) (NF0 := NF0)
    obtain ⟨h2, h3⟩ := h j (by omega)
    show NFX f _ _ = NFX g _ _
    unfold NFX
    rw [h1, ← h2, h3]
theorem NLs_cg {f g : Nat → Int32} {CA CA' : Nat → Nat} {c0 NL0 : Nat} : ∀ {j}, (∀ i, i < j → CA (c0 + i) = CA' (c0 + i) ∧ f (CA (c0 + i)) = g (CA (c0 + i)) ∧ (f (CA (c0 + i)) = 2 → tw f (lnAt f (CA (c0 + i))) = tw g (lnAt g (CA (c0 + i))))) → NLs f CA c0 NL0 j = NLs g CA' c0 NL0 j
  | 0, _ => rfl
  | j + 1, h => by
    have h1 := NLs_cg (j := j) (fun i z => h i (by omega)) (NL0 := NL0)
    obtain ⟨h2, h3, h4⟩ := h j (by omega)
    show NLX f _ _ = NLX g _ _
    unfold NLX
    rw [h1, ← h2, ← h3]
    by_cases e : f (CA (c0 + j)) = 2
    · rw [if_pos e, if_pos e, h4 e]
    · rw [if_neg e, if_neg e]
theorem lcs_cg {f g : Nat → Int32} {CA CA' CF CF' LO : Nat → Nat} {c0 : Nat} : ∀ {j}, (∀ i, i < j → CA (c0 + i) = CA' (c0 + i) ∧ CF (c0 + i) = CF' (c0 + i) ∧ f (CA (c0 + i)) = g (CA (c0 + i)) ∧ (f (CA (c0 + i)) = 2 → tw f (lnAt f (CA (c0 + i))) = tw g (lnAt g (CA (c0 + i))))) → lcs f CA CF c0 j LO = lcs g CA' CF' c0 j LO
  | 0, _ => rfl
  | j + 1, h => by
    have h1 := lcs_cg (j := j) (fun i z => h i (by omega)) (LO := LO)
    obtain ⟨h2, h5, h3, h4⟩ := h j (by omega)
    unfold lcs
    rw [h1, ← h2, ← h3, ← h5]
    by_cases e : f (CA (c0 + j)) = 2
    · rw [if_pos e, if_pos e, h4 e]
    · rw [if_neg e, if_neg e]
theorem nmU_cg {f g : Nat → Int32} {n nd k : Nat} {nf : Nat → Int32} (hg : ∀ i, i < n → f i = g i) (hk : k + 1 < n) : nmU f nd k nf = nmU g nd k nf := by
  unfold nmU
  rw [tw_cg hg hk]
theorem nmUs_cg {f g : Nat → Int32} {n nd k : Nat} {nf : Nat → Int32} (hg : ∀ i, i < n → f i = g i) : ∀ {i}, k + 4 * i ≤ n → nmUs f nd k i nf = nmUs g nd k i nf
  | 0, _ => rfl
  | i + 1, h => by
    show nmU f nd _ _ = nmU g nd _ _
    rw [nmUs_cg hg (i := i) (by omega), nmU_cg hg (by omega)]
theorem nmX_cg {f g : Nat → Int32} {n nd a : Nat} {nf : Nat → Int32} (hg : ∀ i, i < n → f i = g i) (hw : chW f n a) (hK : ∃ j, j < 5 ∧ f a = nI j) : nmX f nd a nf = nmX g nd a nf := by
  have h1 := hw.1
  unfold nmX
  rw [← hg a (by omega), ← hg (a + 5) h1]
  by_cases e0 : f a = 0
  · rw [if_pos e0, if_pos e0]
  rw [if_neg e0, if_neg e0]
  by_cases e1 : f a = 1
  · have := hw.2.1 e1
    rw [if_pos e1, if_pos e1, nmU_cg hg (k := a + 1) (by omega), nmUs_cg hg (by omega)]
  rw [if_neg e1, if_neg e1]
  by_cases e2 : f a = 2
  · obtain ⟨w1, w2, w3, w4⟩ := hw.2.2.1 e2
    rw [if_pos e2, if_pos e2]
    unfold nmI
    rw [← plEnd_cg hg h1, ← hg (a + 5) h1, ← hg _ w2, nmU_cg hg (k := a + 1) (by omega)]
    by_cases z1 : f (a + 5) = 0 <;> by_cases z2 : f (plEnd f (a + 5)) = 0
    · rw [if_pos z2, if_pos z2, if_pos z1, if_pos z1]
    · have := w3 z2
      rw [if_neg z2, if_neg z2, if_pos z1, if_pos z1, nmU_cg hg (k := plEnd f (a + 5) + 1) (by omega)]
    · have := w1 z1
      rw [if_pos z2, if_pos z2, if_neg z1, if_neg z1, nmU_cg hg (k := a + 5 + 1) (by omega)]
    · have := w1 z1
      have := w3 z2
      rw [if_neg z2, if_neg z2, if_neg z1, if_neg z1, nmU_cg hg (k := a + 5 + 1) (by omega), nmU_cg hg (k := plEnd f (a + 5) + 1) (by omega)]
  rw [if_neg e2, if_neg e2]
  by_cases e3 : f a = 3
  · rw [if_pos e3, if_pos e3, nmU_cg hg (k := a + 1) (by omega)]
  rw [if_neg e3, if_neg e3]
  obtain ⟨j, hj, e⟩ := hK
  have e4 : f a = 4 := by
    match j, hj with
    | 0, _ => exact absurd e e0
    | 1, _ => exact absurd e e1
    | 2, _ => exact absurd e e2
    | 3, _ => exact absurd e e3
    | 4, _ => exact e
  have := hw.2.2.2.2 e4
  rw [nmU_cg hg (k := a + 1) (by omega), nmU_cg hg (k := a + 7) (by omega)]
theorem nmXs_cg {f g : Nat → Int32} {n nd c0 : Nat} {CA CA' : Nat → Nat} {nf : Nat → Int32} (hg : ∀ i, i < n → f i = g i) : ∀ {j}, (∀ i, i < j → CA (c0 + i) = CA' (c0 + i) ∧ chW f n (CA (c0 + i)) ∧ ∃ q, q < 5 ∧ f (CA (c0 + i)) = nI q) → nmXs f nd CA c0 j nf = nmXs g nd CA' c0 j nf
  | 0, _ => rfl
  | j + 1, h => by
    obtain ⟨h1, h2, h3⟩ := h j (by omega)
    show nmX f nd _ _ = nmX g nd _ _
    rw [nmXs_cg hg (j := j) (fun i z => h i (by omega)), ← h1, nmX_cg hg h2 h3]
theorem chR.kd {f : Nat → Int32} {en a b : Nat} (h : chR f en a b) : ∃ j, j < 5 ∧ f a = nI j := by
  rcases h with ⟨e, _⟩ | ⟨e, _⟩ | ⟨e, _⟩ | ⟨e, _⟩ | ⟨e, _⟩
  · exact ⟨0, by omega, e⟩
  · exact ⟨1, by omega, e⟩
  · exact ⟨2, by omega, e⟩
  · exact ⟨3, by omega, e⟩
  · exact ⟨4, by omega, e⟩
theorem lnP_cg {f g : Nat → Int32} {n b : Nat} (hg : ∀ i, i < n → f i = g i) : ∀ {i}, (∀ q, q < i → lnP f b q + 1 < n) → lnP f b i = lnP g b i
  | 0, _ => rfl
  | i + 1, h => by
    have h1 := lnP_cg hg (i := i) (fun q z => h q (by omega))
    show lnP f b i + 2 + tw f (lnP f b i) = lnP g b i + 2 + tw g (lnP g b i)
    rw [← h1, tw_cg hg (h i (by omega))]
theorem insR.P {f : Nat → Int32} {en a b : Nat} (h : insR f en a b) : ∀ q, q < tw f (lnAt f a) → lnR f en (lnP f (lnAt f a + 2) q) (lnP f (lnAt f a + 2) (q + 1)) := by
  obtain ⟨q1, q2, p1, p2, p3, p4, p5⟩ := h
  have e : lnAt f a = q2 := by unfold lnAt; rw [p1.end, p2.end]
  rw [e]
  exact p5.at
theorem liR.cg {f g : Nat → Int32} {DP DP' FC FC' CA CA' CF CF' CL CL' : Nat → Nat} {n P nd c a b n0 : Nat} {la ll lc lp lu ld : Nat → Int32} (A : Agr f g DP DP' FC FC' CA CA' CF CF' CL CL' n P nd c) (he : f a = 2) (hc : chR f n a b) (h : liR f DP FC CL P nd c a n0 la ll lc lp lu ld) : liR g DP' FC' CL' P nd c a n0 la ll lc lp lu ld := by
  have hw := hc.W
  obtain ⟨w1, w2, w3, w4⟩ := hw.2.2.1 he
  have hP := insR.P (chR_2 he hc)
  have e1 : lnAt f a = lnAt g a := lnAt_cg A.hf hw.1 w2
  have e2 := plEnd_cg A.hf hw.1
  have e3 : tw f (lnAt f a) = tw g (lnAt g a) := by rw [← e1]; exact tw_cg A.hf w4
  intro q hq
  rw [← e3] at hq
  obtain ⟨h1, h2, h3, h4, h5, h6⟩ := h q hq
  have e4 : lnP f (lnAt f a + 2) q = lnP g (lnAt f a + 2) q := lnP_cg A.hf (fun r z => by have := (hP r (by omega)).1; omega)
  have e5 := (hP q hq).1
  rw [← e1, ← e4, ← tw_cg A.hf (k := lnP f (lnAt f a + 2) q) (by omega), ← e2]
  exact ⟨h1, h2, h3, h4, A.up hw.1 (fun z => by have := w1 z; omega) h5, A.up w2 (fun z => by have := w3 z; omega) h6⟩

