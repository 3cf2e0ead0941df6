/-! 76.agree.lean.txt -/
theorem tw_cg {f g : Nat → Int32} {n k : Nat} (h : ∀ i, i < n → f i = g i) (hk : k + 1 < n) : tw f k = tw g k := by
  unfold tw
  rw [h k (by omega), h (k + 1) hk]
theorem plEnd_cg {f g : Nat → Int32} {n a : Nat} (h : ∀ i, i < n → f i = g i) (ha : a < n) : plEnd f a = plEnd g a := by
  unfold plEnd
  rw [h a ha]
theorem lnAt_cg {f g : Nat → Int32} {n a : Nat} (h : ∀ i, i < n → f i = g i) (ha : a + 5 < n) (hb : plEnd f (a + 5) < n) : lnAt f a = lnAt g a := by
  unfold lnAt
  rw [plEnd_cg h hb, plEnd_cg h ha]
theorem nmAt_cg {f g : Nat → Int32} {n a : Nat} (h : ∀ i, i < n → f i = g i) (ha : a + 5 < n) : nmAt f a = nmAt g a := by
  unfold nmAt
  rw [h a (by omega), h (a + 5) ha]
/-- what the change at a reads stands in front of n -/
def chW (f : Nat → Int32) (n a : Nat) : Prop := a + 5 < n ∧ (f a = 1 → a + 6 + 4 * b8 (f (a + 5)) < n) ∧ (f a = 2 → (¬ f (a + 5) = 0 → a + 12 < n) ∧ plEnd f (a + 5) < n ∧ (¬ f (plEnd f (a + 5)) = 0 → plEnd f (a + 5) + 7 < n) ∧ lnAt f a + 1 < n) ∧ (f a = 3 → a + 7 ≤ n) ∧ (f a = 4 → a + 13 ≤ n)
theorem plR.end {f : Nat → Int32} {en a b : Nat} (h : plR f en a b) : plEnd f a = b := by
  unfold plEnd
  rcases h.2 with ⟨h1, h2⟩ | ⟨h1, h2⟩
  · rw [if_pos h1, h2]
  · rw [if_neg (by rw [h1]; decide), h2]
theorem chR.W {f : Nat → Int32} {en a b : Nat} (h : chR f en a b) : chW f en a := by
  have nk : ∀ {x : Int32} {i j : Int32}, x = i → x = j → ¬ i = j → False := fun h1 h2 h3 => h3 (h1.symm.trans h2)
  rcases h with ⟨e, h⟩ | ⟨e, h⟩ | ⟨e, h⟩ | ⟨e, h1, h2⟩ | ⟨e, h1, h2⟩
  · exact ⟨h.1, fun z => (nk e z (by decide)).elim, fun z => (nk e z (by decide)).elim, fun z => (nk e z (by decide)).elim, fun z => (nk e z (by decide)).elim⟩
  · exact ⟨by have := h.1; omega, fun _ => h.2.2.1, fun z => (nk e z (by decide)).elim, fun z => (nk e z (by decide)).elim, fun z => (nk e z (by decide)).elim⟩
  · obtain ⟨q1, q2, p1, p2, p3, p4, p5⟩ := h
    have e1 := p1.end
    have e2 := p2.end
    have l1 := p1.le
    have l2 := p2.le
    refine ⟨by have := p1.1; omega, fun z => (nk e z (by decide)).elim, fun _ => ⟨fun z => ?_, by rw [e1]; exact p2.1, fun z => ?_, ?_⟩, fun z => (nk e z (by decide)).elim, fun z => (nk e z (by decide)).elim⟩
    · rcases p1.2 with ⟨h1, h2⟩ | ⟨h1, h2⟩
      · exact absurd h1 z
      · have := p2.1; omega
    · rw [e1] at z ⊢
      rcases p2.2 with ⟨h1, h2⟩ | ⟨h1, h2⟩
      · exact absurd h1 z
      · omega
    · unfold lnAt
      rw [e1, e2]; omega
  · exact ⟨by omega, fun z => (nk e z (by decide)).elim, fun z => (nk e z (by decide)).elim, fun _ => by omega, fun z => (nk e z (by decide)).elim⟩
  · exact ⟨by omega, fun z => (nk e z (by decide)).elim, fun z => (nk e z (by decide)).elim, fun z => (nk e z (by decide)).elim, fun _ => by omega⟩
theorem nmR.cg {f g : Nat → Int32} {en a b : Nat} {le : Int32} (hg : ∀ i, i < en → f i = g i) (h : nmR f en le a b) : nmR g en le a b := by
  obtain ⟨h0, n, h1, h2, h3, h4, h5, h6⟩ := h
  refine ⟨h0, n, h1, hg a h0 ▸ h2, hg a h0 ▸ h3, h4, fun i z1 z2 => ?_, h6⟩
  rw [← hg i (by omega)]
  exact h5 i z1 z2
theorem plR.cg {f g : Nat → Int32} {en a b : Nat} (hg : ∀ i, i < en → f i = g i) (h : plR f en a b) : plR g en a b := by
  obtain ⟨h0, h1⟩ := h
  exact ⟨h0, hg a h0 ▸ h1⟩
theorem lnR.cg {f g : Nat → Int32} {en a b : Nat} (hg : ∀ i, i < en → f i = g i) (h : lnR f en a b) : lnR g en a b := by
  obtain ⟨h0, h1, h2, h3, h4, h5⟩ := h
  have e : tw f a = tw g a := tw_cg hg (by omega)
  rw [e] at h1 h2 h3 h4 h5
  exact ⟨h0, h1, h2, h3, fun i z1 z2 => by rw [← hg i (by omega)]; exact h4 i z1 z2, h5⟩
theorem lnsR.cg {f g : Nat → Int32} {en : Nat} (hg : ∀ i, i < en → f i = g i) : ∀ {n a b : Nat}, lnsR f en n a b → lnsR g en n a b
  | 0, _, _, h => h
  | n + 1, _, _, ⟨q, h1, h2⟩ => ⟨q, h1.cg hg, lnsR.cg hg h2⟩
theorem chR.cg {f g : Nat → Int32} {en a b : Nat} (hg : ∀ i, i < en → f i = g i) (ha : a < en) (h : chR f en a b) : chR g en a b := by
  have ea := hg a ha
  rcases h with ⟨e, h⟩ | ⟨e, h⟩ | ⟨e, h⟩ | ⟨e, h⟩ | ⟨e, h⟩
  · exact Or.inl ⟨ea ▸ e, h.cg hg⟩
  · obtain ⟨h1, h2, h3⟩ := h
    have e5 := hg (a + 5) (by omega)
    refine Or.inr (Or.inl ⟨ea ▸ e, h1, e5 ▸ h2, ?_⟩)
    rw [← e5]
    exact h3.cg hg
  · obtain ⟨q1, q2, p1, p2, p3, p4, p5⟩ := h
    have e5 : tw f q2 = tw g q2 := tw_cg hg (by omega)
    refine Or.inr (Or.inr (Or.inl ⟨ea ▸ e, q1, q2, p1.cg hg, p2.cg hg, p3, e5 ▸ p4, ?_⟩))
    rw [← e5]
    exact p5.cg hg
  · exact Or.inr (Or.inr (Or.inr (Or.inl ⟨ea ▸ e, h⟩)))
  · exact Or.inr (Or.inr (Or.inr (Or.inr ⟨ea ▸ e, h⟩)))
theorem sS_cg {f g : Nat → Int32} {en a T : Nat} (hg : ∀ i, i < en → f i = g i) (h : chain f en a T) : ∀ j, j ≤ T → sS f en a j = sS g en a j
  | 0, _ => rfl
  | j + 1, hj => by
    have ih := sS_cg hg h j (by omega)
    obtain ⟨h1, h2⟩ := h j (by omega)
    have h3 := h2.cg hg h1
    rw [ih] at h3
    exact (chN_eq h3).symm
theorem chain.cg {f g : Nat → Int32} {en a T : Nat} (hg : ∀ i, i < en → f i = g i) (h : chain f en a T) : chain g en a T := by
  intro j hj
  obtain ⟨h1, h2⟩ := h j hj
  rw [← sS_cg hg h j (by omega), ← sS_cg hg h (j + 1) (by omega)]
  exact ⟨h1, h2.cg hg h1⟩
theorem kept.cg {f g : Nat → Int32} {s0 en : Nat} (hg : ∀ i, i < en → f i = g i) (h : kept f s0 en) : kept g s0 en := by
  obtain ⟨h1, h2, h3, h4, h5, h6⟩ := h
  have e1 : tw f s0 = tw g s0 := tw_cg hg (by omega)
  have e2 : tw f (s0 + 2 + tw f s0 * 32) = tw g (s0 + 2 + tw g s0 * 32) := by rw [← e1]; exact tw_cg hg (by omega)
  have e3 := sS_cg hg h5 _ (Nat.le_refl _)
  refine ⟨h1, e1 ▸ h2, fun i hi => ?_, e2 ▸ h4, ?_, ?_⟩
  · have e4 : ∀ j, j + 32 ≤ en → sq f j 32 = sq g j 32 := fun j z => sq_congr 32 j j (fun k hk => hg _ (by omega))
    rw [← e1] at hi
    rw [← e4 _ (by omega), ← e4 _ (by omega)]
    exact h3 i hi
  · rw [← e2, ← e1]; exact h5.cg hg
  · rw [← e2, ← e1, ← e3]; exact h6
/-- two readings of what stands in front of change cc of patch P agree -/
def Agr (f g : Nat → Int32) (DP DP' FC FC' CA CA' CF CF' CL CL' : Nat → Nat) (n P nd cc : Nat) : Prop := (∀ i, i < n → f i = g i) ∧ (∀ i, i < nd → DP i = DP' i) ∧ (∀ i, i < nd → DP i < P) ∧ (∀ i, i ≤ P → FC i = FC' i) ∧ (∀ i, i < cc → CA i = CA' i) ∧ (∀ i, i < cc → CF i = CF' i) ∧ (∀ i, i < cc → CL i = CL' i) ∧ (∀ i, i < cc → chW f n (CA i)) ∧ (∀ i, i < P → FC (i + 1) ≤ cc)
theorem Agr.hf {f g : Nat → Int32} {DP DP' FC FC' CA CA' CF CF' CL CL' : Nat → Nat} {n P nd cc : Nat} (h9 : Agr f g DP DP' FC FC' CA CA' CF CF' CL CL' n P nd cc) : ∀ i, i < n → f i = g i := h9.1
theorem Agr.hD {f g : Nat → Int32} {DP DP' FC FC' CA CA' CF CF' CL CL' : Nat → Nat} {n P nd cc : Nat} (h9 : Agr f g DP DP' FC FC' CA CA' CF CF' CL CL' n P nd cc) : ∀ i, i < nd → DP i = DP' i := h9.2.1
theorem Agr.hP {f g : Nat → Int32} {DP DP' FC FC' CA CA' CF CF' CL CL' : Nat → Nat} {n P nd cc : Nat} (h9 : Agr f g DP DP' FC FC' CA CA' CF CF' CL CL' n P nd cc) : ∀ i, i < nd → DP i < P := h9.2.2.1
theorem Agr.hC {f g : Nat → Int32} {DP DP' FC FC' CA CA' CF CF' CL CL' : Nat → Nat} {n P nd cc : Nat} (h9 : Agr f g DP DP' FC FC' CA CA' CF CF' CL CL' n P nd cc) : ∀ i, i ≤ P → FC i = FC' i := h9.2.2.2.1
theorem Agr.hA {f g : Nat → Int32} {DP DP' FC FC' CA CA' CF CF' CL CL' : Nat → Nat} {n P nd cc : Nat} (h9 : Agr f g DP DP' FC FC' CA CA' CF CF' CL CL' n P nd cc) : ∀ i, i < cc → CA i = CA' i := h9.2.2.2.2.1
theorem Agr.hF {f g : Nat → Int32} {DP DP' FC FC' CA CA' CF CF' CL CL' : Nat → Nat} {n P nd cc : Nat} (h9 : Agr f g DP DP' FC FC' CA CA' CF CF' CL CL' n P nd cc) : ∀ i, i < cc → CF i = CF' i := h9.2.2.2.2.2.1
theorem Agr.hL {f g : Nat → Int32} {DP DP' FC FC' CA CA' CF CF' CL CL' : Nat → Nat} {n P nd cc : Nat} (h9 : Agr f g DP DP' FC FC' CA CA' CF CF' CL CL' n P nd cc) : ∀ i, i < cc → CL i = CL' i := h9.2.2.2.2.2.2.1
theorem Agr.hW {f g : Nat → Int32} {DP DP' FC FC' CA CA' CF CF' CL CL' : Nat → Nat} {n P nd cc : Nat} (h9 : Agr f g DP DP' FC FC' CA CA' CF CF' CL CL' n P nd cc) : ∀ i, i < cc → chW f n (CA i) := h9.2.2.2.2.2.2.2.1
theorem Agr.hM {f g : Nat → Int32} {DP DP' FC FC' CA CA' CF CF' CL CL' : Nat → Nat} {n P nd cc : Nat} (h9 : Agr f g DP DP' FC FC' CA CA' CF CF' CL CL' n P nd cc) : ∀ i, i < P → FC (i + 1) ≤ cc := h9.2.2.2.2.2.2.2.2
theorem Agr.cn {f g : Nat → Int32} {DP DP' FC FC' CA CA' CF CF' CL CL' : Nat → Nat} {n P nd cc k x : Nat} (A : Agr f g DP DP' FC FC' CA CA' CF CF' CL CL' n P nd cc) (hk : k + 3 < n) (h : cnR f DP FC P nd cc k x) : cnR g DP' FC' P nd cc k x ∧ x < cc := by
  have h1 := tw_cg A.hf (k := k) (by omega)
  have h2 := tw_cg A.hf (k := k + 2) (by omega)
  refine ⟨?_, cnR.lt A.hP A.hM h⟩
  rcases h with ⟨a, b, c⟩ | ⟨a, b, c⟩
  · exact Or.inl ⟨h1 ▸ a, by rw [← h2, ← A.hC P (Nat.le_refl _)]; exact b, c⟩
  · have e1 := A.hP _ a
    refine Or.inr ⟨h1 ▸ a, ?_, ?_⟩
    · rw [← h1, ← h2, ← A.hD _ a, ← A.hC _ (by omega)]; exact b
    · rw [← h1, ← A.hD _ a, ← A.hC _ (by omega)]; exact c
theorem Agr.fn {f g : Nat → Int32} {DP DP' FC FC' CA CA' CF CF' CL CL' : Nat → Nat} {n P nd cc k y : Nat} (A : Agr f g DP DP' FC FC' CA CA' CF CF' CL CL' n P nd cc) (hk : k + 3 < n) (h : fnR f DP FC CA CF P nd cc k y) : fnR g DP' FC' CA' CF' P nd cc k y := by
  obtain ⟨x, h1, h2, h3⟩ := h
  obtain ⟨h4, h5⟩ := A.cn hk h1
  have hw := (A.hW x h5).1
  refine ⟨x, h4, ?_, ?_⟩
  · rw [← A.hA x h5, ← A.hf _ (by omega)]; exact h2
  · rw [← A.hF x h5]; exact h3
theorem Agr.fl {f g : Nat → Int32} {DP DP' FC FC' CA CA' CF CF' CL CL' : Nat → Nat} {n P nd cc k y : Nat} (A : Agr f g DP DP' FC FC' CA CA' CF CF' CL CL' n P nd cc) (hk : k + 5 < n) (h : flR f DP FC CA CF P nd cc k y) : flR g DP' FC' CA' CF' P nd cc k y := by
  obtain ⟨x, h1, h2, h3, h6⟩ := h
  obtain ⟨h4, h5⟩ := A.cn (by omega) h1
  have hw := A.hW x h5
  have hw1 := hw.1
  have hw2 := hw.2.2.1 h2
  have e1 : lnAt f (CA x) = lnAt g (CA x) := lnAt_cg A.hf hw1 hw2.2.1
  refine ⟨x, h4, ?_, ?_, ?_⟩
  · rw [← A.hA x h5, ← A.hf _ (by omega)]; exact h2
  · rw [← A.hA x h5, ← e1, ← tw_cg A.hf (k := lnAt f (CA x)) hw2.2.2.2, ← tw_cg A.hf (k := k + 4) (by omega)]; exact h3
  · rw [← A.hF x h5]; exact h6
theorem isNm_cg {f g : Nat → Int32} {n a : Nat} (hg : ∀ i, i < n → f i = g i) (hw : chW f n a) (h : isNm f a) : isNm g a := by
  have h1 := hw.1
  have ea := hg a (by omega)
  rcases h with h | ⟨h, h2⟩
  · exact Or.inl (ea ▸ h)
  · refine Or.inr ⟨ea ▸ h, ?_⟩
    have h3 := hw.2.1 h
    have e1 : nmAt f a = a + 6 + 4 * b8 (f (a + 5)) := if_neg (by rw [h]; decide)
    rw [← nmAt_cg hg h1, ← hg _ (by omega)]
    exact h2
theorem Agr.rs {f g : Nat → Int32} {DP DP' FC FC' CA CA' CF CF' CL CL' : Nat → Nat} {n P nd cc NF a y : Nat} (A : Agr f g DP DP' FC FC' CA CA' CF CF' CL CL' n P nd cc) (hw : chW f n a) (hnd : nd ≤ 2048) (h : rsR f DP FC CA CF CL P nd cc NF a y) : rsR g DP' FC' CA' CF' CL' P nd cc NF a y := by
  have h1 := hw.1
  have ea := A.hf a (by omega)
  have e5 := A.hf (a + 5) h1
  rcases h with ⟨e, h⟩ | ⟨e, h⟩ | ⟨e, h⟩ | ⟨e, h⟩ | ⟨e, h⟩
  · exact Or.inl ⟨ea ▸ e, h⟩
  · have h2 := hw.2.1 e
    refine Or.inr (Or.inl ⟨ea ▸ e, A.fn (by omega) h.1, fun i hi => ?_⟩)
    rw [← e5] at hi
    obtain ⟨x, z1, z2, z3, z4⟩ := h.2 i hi
    obtain ⟨z5, z6⟩ := A.cn (by omega) z1
    refine ⟨x, z5, ?_, ?_, ?_⟩
    · rw [← A.hA x z6]; exact isNm_cg A.hf (A.hW x z6) z2
    · rw [← A.hF x z6]; exact z3
    · rintro ⟨j, q1, q2, q3⟩
      refine z4 ⟨j, q1, ?_, ?_⟩
      · rw [tw_cg A.hf (k := a + 6 + 4 * i) (by omega), tw_cg A.hf (k := a + 6 + 4 * j) (by omega)]; exact q2
      · rw [tw_cg A.hf (k := a + 6 + 4 * i + 2) (by omega), tw_cg A.hf (k := a + 6 + 4 * j + 2) (by omega)]; exact q3
  · obtain ⟨w1, w2, w3, w4⟩ := hw.2.2.1 e
    have e6 := plEnd_cg A.hf h1
    refine Or.inr (Or.inr (Or.inl ⟨ea ▸ e, A.fn (by omega) h.1, fun z => ?_, fun z => ?_⟩))
    · rw [← e5] at z
      exact A.fl (by have := w1 z; omega) (h.2.1 z)
    · rw [← e6, ← A.hf _ w2] at z
      rw [← e6]
      exact A.fl (by have := w3 z; omega) (h.2.2 z)
  · have h3 := hw.2.2.2.1 e
    exact Or.inr (Or.inr (Or.inr (Or.inl ⟨ea ▸ e, A.fl (by omega) h⟩)))
  · have h3 := hw.2.2.2.2 e
    refine Or.inr (Or.inr (Or.inr (Or.inr ⟨ea ▸ e, A.fl (by omega) h.1, A.fl (by omega) h.2.1, fun x1 x2 z1 z2 => ?_⟩)))
    obtain ⟨y1, p1, -, -, -⟩ := h.1
    obtain ⟨y2, p2, -, -, -⟩ := h.2.1
    obtain ⟨p3, p4⟩ := A.cn (by omega) p1
    obtain ⟨p5, p6⟩ := A.cn (by omega) p2
    rw [cnR.uniq hnd z1 p3, cnR.uniq hnd z2 p5, ← A.hL _ p4, ← A.hL _ p6, ← tw_cg A.hf (k := a + 1 + 4) (by omega), ← tw_cg A.hf (k := a + 7 + 4) (by omega)]
    exact h.2.2 _ _ p1 p2
theorem Agr.up {f g : Nat → Int32} {DP DP' FC FC' CA CA' CF CF' CL CL' : Nat → Nat} {n P nd cc k : Nat} {v : Int32} (A : Agr f g DP DP' FC FC' CA CA' CF CF' CL CL' n P nd cc) (hk : k < n) (hk2 : ¬ f k = 0 → k + 7 ≤ n) (h : upR f DP FC CL P nd cc k v) : upR g DP' FC' CL' P nd cc k v := by
  have ek := A.hf k hk
  rcases h with ⟨e, h⟩ | ⟨e, x, h1, h2⟩
  · exact Or.inl ⟨ek ▸ e, h⟩
  · have h3 := hk2 e
    obtain ⟨p3, p4⟩ := A.cn (by omega) h1
    exact Or.inr ⟨ek ▸ e, x, p3, by rw [← A.hL _ p4, ← tw_cg A.hf (k := k + 1 + 4) (by omega)]; exact h2⟩

