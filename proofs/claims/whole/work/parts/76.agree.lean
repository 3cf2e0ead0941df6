section
/-! 76.agree.lean.txt -/
theorem tw_cg {f g : Nat → Int32} {n k : Nat} (h : ∀ i, i < n → f i = g i) (hk : k + 1 < n) : tw f k = tw g k := by
  unfold tw
  rw [h k (by omega), h (k + 1) hk]
theorem plEnd_cg {f g : Nat → Int32} {n a : Nat} (h : ∀ i, i < n → f i = g i) (ha : a < n) : plEnd f a = plEnd g a := by
  unfold plEnd
  rw [h a ha]
theorem lnAt_cg {f g : Nat → Int32} {n a : Nat} (h : ∀ i, i < n → f i = g i) (ha : a + 5 < n) (hb : plEnd f (a + 5) < n) : lnAt f a = lnAt g a := by
  unfold lnAt
  rw [plEnd_cg h hb, plEnd_cg h ha]
theorem nmAt_cg {f g : Nat → Int32} {n a : Nat} (h : ∀ i, i < n → f i = g i) (ha : a + 5 < n) : nmAt f a = nmAt g a := by
  unfold nmAt
  rw [h a (by omega), h (a + 5) ha]
/-- what the change at a reads stands in front of n -/
def chW (f : Nat → Int32) (n a : Nat) : Prop := a + 5 < n ∧ (f a = 1 → a + 6 + 4 * b8 (f (a + 5)) < n) ∧ (f a = 2 → (¬ f (a + 5) = 0 → a + 12 < n) ∧ plEnd f (a + 5) < n ∧ (¬ f (plEnd f (a + 5)) = 0 → plEnd f (a + 5) + 7 < n) ∧ lnAt f a + 1 < n) ∧ (f a = 3 → a + 7 ≤ n) ∧ (f a = 4 → a + 13 ≤ n)
theorem plR.end {f : Nat → Int32} {en a b : Nat} (h : plR f en a b) : plEnd f a = b := by
  unfold plEnd
  rcases h.2 with ⟨h1, h2⟩ | ⟨h1, h2⟩
  · rw [if_pos h1, h2]
  · rw [if_neg (by rw [h1]; decide), h2]
theorem chR.W {f : Nat → Int32} {en a b : Nat} (h : chR f en a b) : chW f en a := by
  have nk : ∀ {x : Int32} {i j : Int32}, x = i → x = j → ¬ i = j → False := fun h1 h2 h3 => h3 (h1.symm.trans h2)
  rcases h with ⟨e, h⟩ | ⟨e, h⟩ | ⟨e, h⟩ | ⟨e, h1, h2⟩ | ⟨e, h1, h2⟩
  · exact ⟨h.1, fun z => (nk e z (by decide)).elim, fun z => (nk e z (by decide)).elim, fun z => (nk e z (by decide)).elim, fun z => (nk e z (by decide)).elim⟩
  · exact ⟨by have := h.1; omega, fun _ => h.2.2.1, fun z => (nk e z (by decide)).elim, fun z => (nk e z (by decide)).elim, fun z => (nk e z (by decide)).elim⟩
  · obtain ⟨q1, q2, p1, p2, p3, p4, p5⟩ := h
    have e1 := p1.end
    have e2 := p2.end
    have l1 := p1.le
    have l2 := p2.le
    refine ⟨by have := p1.1; omega, fun z => (nk e z (by decide)).elim, fun _ => ⟨fun z => ?_, by rw [e1]; exact p2.1, fun z => ?_, ?_⟩, fun z => (nk e z (by decide)).elim, fun z => (nk e z (by decide)).elim⟩
    · rcases p1.2 with ⟨h1, h2⟩ | ⟨h1, h2⟩
      · exact absurd h1 z
      · have := p2.1; omega
    · rw [e1] at z ⊢
      rcases p2.2 with ⟨h1, h2⟩ | ⟨h1, h2⟩
      · exact absurd h1 z
      · omega
    · unfold lnAt
      rw [e1, e2]; omega
  · exact ⟨by omega, fun z => (nk e z (by decide)).elim, fun z => (nk e z (by decide)).elim, fun _ => by omega, fun z => (nk e z (by decide)).elim⟩
  · exact ⟨by omega, fun z => (nk e z (by decide)).elim, fun z => (nk e z (by decide)).elim, fun z => (nk e z (by decide)).elim, fun _ => by omega⟩
theorem nmR.cg {f g : Nat → Int32} {en a b : Nat} {le : Int32} (hg : ∀ i, i < en → f i = g i) (h : nmR f en le a b) : nmR g en le a b := by
  obtain ⟨h0, n, h1, h2, h3, h4, h5, h6⟩ := h
  refine ⟨h0, n, h1, hg a h0 ▸ h2, hg a h0 ▸ h3, h4, fun i z1 z2 => ?_, h6⟩
  rw [← hg i (by omega)]
  exact h5 i z1 z2
theorem plR.cg {f g : Nat → Int32} {en a b : Nat} (hg : ∀ i, i < en → f i = g i) (h : plR f en a b) : plR g en a b := by
  obtain ⟨h0, h1⟩ := h
  exact ⟨h0, hg a h0 ▸ h1⟩
theorem lnR.cg {f g : Nat → Int32} {en a b : Nat} (hg : ∀ i, i < en → f i = g i) (h : lnR f en a b) : lnR g en a b := by
  obtain ⟨h0, h1, h2, h3, h4, h5⟩ := h
  have e : tw f a = tw g a := tw_cg hg (by omega)
  rw [e] at h1 h2 h3 h4 h5
  exact ⟨h0, h1, h2, h3, fun i z1 z2 => by rw [← hg i (by omega)]; exact h4 i z1 z2, h5⟩
theorem lnsR.cg {f g : Nat → Int32} {en : Nat} (hg : ∀ i, i < en → f i = g i) : ∀ {n a b : Nat}, lnsR f en n a b → lnsR g en n a b
  | 0, _, _, h => h
  | n + 1, _, _, ⟨q, h1, h2⟩ => ⟨q, h1.cg hg, lnsR.cg hg h2⟩
theorem chR.cg {f g : Nat → Int32} {en a b : Nat} (hg : ∀ i, i < en → f i = g i) (ha : a < en) (h : chR f en a b) : chR g en a b := by
  have ea := hg a ha
  rcases h with ⟨e, h⟩ | ⟨e, h⟩ | ⟨e, h⟩ | ⟨e, h⟩ | ⟨e, h⟩
  · exact Or.inl ⟨ea ▸ e, h.cg hg⟩
  · obtain ⟨h1, h2, h3⟩ := h
    have e5 := hg (a + 5) (by omega)
    refine Or.inr (Or.inl ⟨ea ▸ e, h1, e5 ▸ h2, ?_⟩)
    rw [← e5]
    exact h3.cg hg
  · obtain ⟨q1, q2, p1, p2, p3, p4, p5⟩ := h
    have e5 : tw f q2 = tw g q2 := tw_cg hg (by omega)
    refine Or.inr (Or.inr (Or.inl ⟨ea ▸ e, q1, q2, p1.cg hg, p2.cg hg, p3, e5 ▸ p4, ?_⟩))
    rw [← e5]
    exact p5.cg hg
  · exact Or.inr (Or.inr (Or.inr (Or.inl ⟨ea ▸ e, h⟩)))
  · exact Or.inr (Or.inr (Or.inr (Or.inr ⟨ea ▸ e, h⟩)))
theorem sS_cg {f g : Nat → Int32} {en a T : Nat} (hg : ∀ i, i < en → f i = g i) (h : chain f en a T) : ∀ j, j ≤ T → sS f en a j = sS g en a j
  | 0, _ => rfl
  | j + 1, hj => by
    have ih := sS_cg hg h j (by omega)
    obtain ⟨h1, h2⟩ := h j (by omega)
    have h3 := h2.cg hg h1
    rw [ih] at h3
    exact (chN_eq h3).symm
theorem chain.cg {f g : Nat → Int32} {en a T : Nat} (hg : ∀ i, i < en → f i = g i) (h : chain f en a T) : chain g en a T := by
  intro j hj
  obtain ⟨h1, h2⟩ := h j hj
  rw [← sS_cg hg h j (by omega), ← sS_cg hg h (j + 1) (by omega)]
  exact ⟨h1, h2.cg hg h1⟩
theorem kept.cg {f g : Nat → Int32} {s0 en : Nat} (hg : ∀ i, i < en → f i = g i) (h : kept f s0 en) : kept g s0 en := by
  obtain ⟨h1, h2, h3, h4, h5, h6⟩ := h
  have e1 : tw f s0 = tw g s0 := tw_cg hg (by omega)
  have e2 : tw f (s0 + 2 + tw f s0 * 32) = tw g (s0 + 2 + tw g s0 * 32) := by rw [← e1]; exact tw_cg hg (by omega)
  have e3 := sS_cg hg h5 _ (Nat.le_refl _)
  refine ⟨h1, e1 ▸ h2, fun i hi => ?_, e2 ▸ h4, ?_, ?_⟩
  · have e4 : ∀ j, j + 32 ≤ en → sq f j 32 = sq g j 32 := fun j z => sq_congr 32 j j (fun k hk => hg _ (by omega))
    rw [← e1] at hi
    rw [← e4 _ (by omega), ← e4 _ (by omega)]
    exact h3 i hi
  · rw [← e2, ← e1]; exact h5.cg hg
  · rw [← e2, ← e1, ← e3]; exact h6
/-- two readings of what stands in front of change cc of patch P agree -/
def Agr (f g : Nat → Int32) (DP DP₇ FC FC₇ CA CA₇ CF CF₇ CL CL₇ : Nat → Nat) (n P nd cc : Nat) : Prop := (∀ i, i < n → f i = g i) ∧ (∀ i, i < nd → DP i = DP₇ i) ∧ (∀ i, i < nd → DP i < P) ∧ (∀ i, i ≤ P → FC i = FC₇ i) ∧ (∀ i, i < cc → CA i = CA₇ i) ∧ (∀ i, i < cc → CF i = CF₇ i) ∧ (∀ i, i < cc → CL i = CL₇ i) ∧ (∀ i, i < cc → chW f n (CA i)) ∧ (∀ i, i < P → FC (i + 1) ≤ cc)
theorem Agr.hf {f g : Nat → Int32} {DP DP₇ FC FC₇ CA CA₇ CF CF₇ CL CL₇ : Nat → Nat} {n P nd cc : Nat} (h9 : Agr f g DP DP₇ FC FC₇ CA CA₇ CF CF₇ CL CL₇ n P nd cc) : ∀ i, i < n → f i = g i := h9.1
theorem Agr.hD {f g : Nat → Int32} {DP DP₇ FC FC₇ CA CA₇ CF CF₇ CL CL₇ : Nat → Nat} {n P nd cc : Nat} (h9 : Agr f g DP DP₇ FC FC₇ CA CA₇ CF CF₇ CL CL₇ n P nd cc) : ∀ i, i < nd → DP i = DP₇ i := h9.2.1
theorem Agr.hP {f g : Nat → Int32} {DP DP₇ FC FC₇ CA CA₇ CF CF₇ CL CL₇ : Nat → Nat} {n P nd cc : Nat} (h9 : Agr f g DP DP₇ FC FC₇ CA CA₇ CF CF₇ CL CL₇ n P nd cc) : ∀ i, i < nd → DP i < P := h9.2.2.1
theorem Agr.hC {f g : Nat → Int32} {DP DP₇ FC FC₇ CA CA₇ CF CF₇ CL CL₇ : Nat → Nat} {n P nd cc : Nat} (h9 : Agr f g DP DP₇ FC FC₇ CA CA₇ CF CF₇ CL CL₇ n P nd cc) : ∀ i, i ≤ P → FC i = FC₇ i := h9.2.2.2.1
theorem Agr.hA {f g : Nat → Int32} {DP DP₇ FC FC₇ CA CA₇ CF CF₇ CL CL₇ : Nat → Nat} {n P nd cc : Nat} (h9 : Agr f g DP DP₇ FC FC₇ CA CA₇ CF CF₇ CL CL₇ n P nd cc) : ∀ i, i < cc → CA i = CA₇ i := h9.2.2.2.2.1
theorem Agr.hF {f g : Nat → Int32} {DP DP₇ FC FC₇ CA CA₇ CF CF₇ CL CL₇ : Nat → Nat} {n P nd cc : Nat} (h9 : Agr f g DP DP₇ FC FC₇ CA CA₇ CF CF₇ CL CL₇ n P nd cc) : ∀ i, i < cc → CF i = CF₇ i := h9.2.2.2.2.2.1
theorem Agr.hL {f g : Nat → Int32} {DP DP₇ FC FC₇ CA CA₇ CF CF₇ CL CL₇ : Nat → Nat} {n P nd cc : Nat} (h9 : Agr f g DP DP₇ FC FC₇ CA CA₇ CF CF₇ CL CL₇ n P nd cc) : ∀ i, i < cc → CL i = CL₇ i := h9.2.2.2.2.2.2.1
theorem Agr.hW {f g : Nat → Int32} {DP DP₇ FC FC₇ CA CA₇ CF CF₇ CL CL₇ : Nat → Nat} {n P nd cc : Nat} (h9 : Agr f g DP DP₇ FC FC₇ CA CA₇ CF CF₇ CL CL₇ n P nd cc) : ∀ i, i < cc → chW f n (CA i) := h9.2.2.2.2.2.2.2.1
theorem Agr.hM {f g : Nat → Int32} {DP DP₇ FC FC₇ CA CA₇ CF CF₇ CL CL₇ : Nat → Nat} {n P nd cc : Nat} (h9 : Agr f g DP DP₇ FC FC₇ CA CA₇ CF CF₇ CL CL₇ n P nd cc) : ∀ i, i < P → FC (i + 1) ≤ cc := h9.2.2.2.2.2.2.2.2
theorem Agr.cn {f g : Nat → Int32} {DP DP₇ FC FC₇ CA CA₇ CF CF₇ CL CL₇ : Nat → Nat} {n P nd cc k x : Nat} (A : Agr f g DP DP₇ FC FC₇ CA CA₇ CF CF₇ CL CL₇ n P nd cc) (hk : k + 3 < n) (h : cnR f DP FC P nd cc k x) : cnR g DP₇ FC₇ P nd cc k x ∧ x < cc := by
  have h1 := tw_cg A.hf (k := k) (by omega)
  have h2 := tw_cg A.hf (k := k + 2) (by omega)
  refine ⟨?_, cnR.lt A.hP A.hM h⟩
  rcases h with ⟨a, b, c⟩ | ⟨a, b, c⟩
  · exact Or.inl ⟨h1 ▸ a, by rw [← h2, ← A.hC P (Nat.le_refl _)]; exact b, c⟩
  · have e1 := A.hP _ a
    refine Or.inr ⟨h1 ▸ a, ?_, ?_⟩
    · rw [← h1, ← h2, ← A.hD _ a, ← A.hC _ (by omega)]; exact b
    · rw [← h1, ← A.hD _ a, ← A.hC _ (by omega)]; exact c
theorem Agr.fn {f g : Nat → Int32} {DP DP₇ FC FC₇ CA CA₇ CF CF₇ CL CL₇ : Nat → Nat} {n P nd cc k y : Nat} (A : Agr f g DP DP₇ FC FC₇ CA CA₇ CF CF₇ CL CL₇ n P nd cc) (hk : k + 3 < n) (h : fnR f DP FC CA CF P nd cc k y) : fnR g DP₇ FC₇ CA₇ CF₇ P nd cc k y := by
  obtain ⟨x, h1, h2, h3⟩ := h
  obtain ⟨h4, h5⟩ := A.cn hk h1
  have hw := (A.hW x h5).1
  refine ⟨x, h4, ?_, ?_⟩
  · rw [← A.hA x h5, ← A.hf _ (by omega)]; exact h2
  · rw [← A.hF x h5]; exact h3
theorem Agr.fl {f g : Nat → Int32} {DP DP₇ FC FC₇ CA CA₇ CF CF₇ CL CL₇ : Nat → Nat} {n P nd cc k y : Nat} (A : Agr f g DP DP₇ FC FC₇ CA CA₇ CF CF₇ CL CL₇ n P nd cc) (hk : k + 5 < n) (h : flR f DP FC CA CF P nd cc k y) : flR g DP₇ FC₇ CA₇ CF₇ P nd cc k y := by
  obtain ⟨x, h1, h2, h3, h6⟩ := h
  obtain ⟨h4, h5⟩ := A.cn (by omega) h1
  have hw := A.hW x h5
  have hw1 := hw.1
  have hw2 := hw.2.2.1 h2
  have e1 : lnAt f (CA x) = lnAt g (CA x) := lnAt_cg A.hf hw1 hw2.2.1
  refine ⟨x, h4, ?_, ?_, ?_⟩
  · rw [← A.hA x h5, ← A.hf _ (by omega)]; exact h2
  · rw [← A.hA x h5, ← e1, ← tw_cg A.hf (k := lnAt f (CA x)) hw2.2.2.2, ← tw_cg A.hf (k := k + 4) (by omega)]; exact h3
  · rw [← A.hF x h5]; exact h6
theorem isNm_cg {f g : Nat → Int32} {n a : Nat} (hg : ∀ i, i < n → f i = g i) (hw : chW f n a) (h : isNm f a) : isNm g a := by
  have h1 := hw.1
  have ea := hg a (by omega)
  rcases h with h | ⟨h, h2⟩
  · exact Or.inl (ea ▸ h)
  · refine Or.inr ⟨ea ▸ h, ?_⟩
    have h3 := hw.2.1 h
    have e1 : nmAt f a = a + 6 + 4 * b8 (f (a + 5)) := if_neg (by rw [h]; decide)
    rw [← nmAt_cg hg h1, ← hg _ (by omega)]
    exact h2
theorem Agr.rs {f g : Nat → Int32} {DP DP₇ FC FC₇ CA CA₇ CF CF₇ CL CL₇ : Nat → Nat} {n P nd cc NF a y : Nat} (A : Agr f g DP DP₇ FC FC₇ CA CA₇ CF CF₇ CL CL₇ n P nd cc) (hw : chW f n a) (hnd : nd ≤ 2048) (h : rsR f DP FC CA CF CL P nd cc NF a y) : rsR g DP₇ FC₇ CA₇ CF₇ CL₇ P nd cc NF a y := by
  have h1 := hw.1
  have ea := A.hf a (by omega)
  have e5 := A.hf (a + 5) h1
  rcases h with ⟨e, h⟩ | ⟨e, h⟩ | ⟨e, h⟩ | ⟨e, h⟩ | ⟨e, h⟩
  · exact Or.inl ⟨ea ▸ e, h⟩
  · have h2 := hw.2.1 e
    refine Or.inr (Or.inl ⟨ea ▸ e, A.fn (by omega) h.1, fun i hi => ?_⟩)
    rw [← e5] at hi
    obtain ⟨x, z1, z2, z3, z4⟩ := h.2 i hi
    obtain ⟨z5, z6⟩ := A.cn (by omega) z1
    refine ⟨x, z5, ?_, ?_, ?_⟩
    · rw [← A.hA x z6]; exact isNm_cg A.hf (A.hW x z6) z2
    · rw [← A.hF x z6]; exact z3
    · rintro ⟨j, q1, q2, q3⟩
      refine z4 ⟨j, q1, ?_, ?_⟩
      · rw [tw_cg A.hf (k := a + 6 + 4 * i) (by omega), tw_cg A.hf (k := a + 6 + 4 * j) (by omega)]; exact q2
      · rw [tw_cg A.hf (k := a + 6 + 4 * i + 2) (by omega), tw_cg A.hf (k := a + 6 + 4 * j + 2) (by omega)]; exact q3
  · obtain ⟨w1, w2, w3, w4⟩ := hw.2.2.1 e
    have e6 := plEnd_cg A.hf h1
    refine Or.inr (Or.inr (Or.inl ⟨ea ▸ e, A.fn (by omega) h.1, fun z => ?_, fun z => ?_⟩))
    · rw [← e5] at z
      exact A.fl (by have := w1 z; omega) (h.2.1 z)
    · rw [← e6, ← A.hf _ w2] at z
      rw [← e6]
      exact A.fl (by have := w3 z; omega) (h.2.2 z)
  · have h3 := hw.2.2.2.1 e
    exact Or.inr (Or.inr (Or.inr (Or.inl ⟨ea ▸ e, A.fl (by omega) h⟩)))
  · have h3 := hw.2.2.2.2 e
    refine Or.inr (Or.inr (Or.inr (Or.inr ⟨ea ▸ e, A.fl (by omega) h.1, A.fl (by omega) h.2.1, fun x1 x2 z1 z2 => ?_⟩)))
    obtain ⟨y1, p1, -, -, -⟩ := h.1
    obtain ⟨y2, p2, -, -, -⟩ := h.2.1
    obtain ⟨p3, p4⟩ := A.cn (by omega) p1
    obtain ⟨p5, p6⟩ := A.cn (by omega) p2
    rw [cnR.uniq hnd z1 p3, cnR.uniq hnd z2 p5, ← A.hL _ p4, ← A.hL _ p6, ← tw_cg A.hf (k := a + 1 + 4) (by omega), ← tw_cg A.hf (k := a + 7 + 4) (by omega)]
    exact h.2.2 _ _ p1 p2
theorem Agr.up {f g : Nat → Int32} {DP DP₇ FC FC₇ CA CA₇ CF CF₇ CL CL₇ : Nat → Nat} {n P nd cc k : Nat} {v : Int32} (A : Agr f g DP DP₇ FC FC₇ CA CA₇ CF CF₇ CL CL₇ n P nd cc) (hk : k < n) (hk2 : ¬ f k = 0 → k + 7 ≤ n) (h : upR f DP FC CL P nd cc k v) : upR g DP₇ FC₇ CL₇ P nd cc k v := by
  have ek := A.hf k hk
  rcases h with ⟨e, h⟩ | ⟨e, x, h1, h2⟩
  · exact Or.inl ⟨ek ▸ e, h⟩
  · have h3 := hk2 e
    obtain ⟨p3, p4⟩ := A.cn (by omega) h1
    exact Or.inr ⟨ek ▸ e, x, p3, by rw [← A.hL _ p4, ← tw_cg A.hf (k := k + 1 + 4) (by omega)]; exact h2⟩
end
section
/-! 77.stock.lean.txt -/
/-- what the stock holds -/
def Stk : Type := Nat × (Nat → Nat) × (Nat → Nat) × (Nat → Nat) × (Nat → Nat) × (Nat → Nat) × (Nat → Nat → Nat) × (Nat → Nat) × (Nat → Nat) × (Nat → Nat) × (Nat → Nat) × (Nat → Nat) × (Nat → Int32) × (Nat → Int32) × (Nat → Int64) × (Nat → Int64) × (Nat → Int32) × (Nat → Int32) × (Nat → Int32) × (Nat → Int32) × (Nat → Int32) × (Nat → Int32) × (Nat → Int32)
def Stk.P (s9 : Stk) : Nat := s9.1
def Stk.FR (s9 : Stk) : Nat → Nat := s9.2.1
def Stk.FD (s9 : Stk) : Nat → Nat := s9.2.2.1
def Stk.FC (s9 : Stk) : Nat → Nat := s9.2.2.2.1
def Stk.NFp (s9 : Stk) : Nat → Nat := s9.2.2.2.2.1
def Stk.NLp (s9 : Stk) : Nat → Nat := s9.2.2.2.2.2.1
def Stk.LOp (s9 : Stk) : Nat → Nat → Nat := s9.2.2.2.2.2.2.1
def Stk.DP (s9 : Stk) : Nat → Nat := s9.2.2.2.2.2.2.2.1
def Stk.CA (s9 : Stk) : Nat → Nat := s9.2.2.2.2.2.2.2.2.1
def Stk.CF (s9 : Stk) : Nat → Nat := s9.2.2.2.2.2.2.2.2.2.1
def Stk.CL (s9 : Stk) : Nat → Nat := s9.2.2.2.2.2.2.2.2.2.2.1
def Stk.BH (s9 : Stk) : Nat → Nat := s9.2.2.2.2.2.2.2.2.2.2.2.1
def Stk.f (s9 : Stk) : Nat → Int32 := s9.2.2.2.2.2.2.2.2.2.2.2.2.1
def Stk.hf (s9 : Stk) : Nat → Int32 := s9.2.2.2.2.2.2.2.2.2.2.2.2.2.1
def Stk.lo (s9 : Stk) : Nat → Int64 := s9.2.2.2.2.2.2.2.2.2.2.2.2.2.2.1
def Stk.lb (s9 : Stk) : Nat → Int64 := s9.2.2.2.2.2.2.2.2.2.2.2.2.2.2.2.1
def Stk.la (s9 : Stk) : Nat → Int32 := s9.2.2.2.2.2.2.2.2.2.2.2.2.2.2.2.2.1
def Stk.ll (s9 : Stk) : Nat → Int32 := s9.2.2.2.2.2.2.2.2.2.2.2.2.2.2.2.2.2.1
def Stk.lc (s9 : Stk) : Nat → Int32 := s9.2.2.2.2.2.2.2.2.2.2.2.2.2.2.2.2.2.2.1
def Stk.lp (s9 : Stk) : Nat → Int32 := s9.2.2.2.2.2.2.2.2.2.2.2.2.2.2.2.2.2.2.2.1
def Stk.lu (s9 : Stk) : Nat → Int32 := s9.2.2.2.2.2.2.2.2.2.2.2.2.2.2.2.2.2.2.2.2.1
def Stk.ld (s9 : Stk) : Nat → Int32 := s9.2.2.2.2.2.2.2.2.2.2.2.2.2.2.2.2.2.2.2.2.2.1
def Stk.ad (s9 : Stk) : Nat → Int32 := s9.2.2.2.2.2.2.2.2.2.2.2.2.2.2.2.2.2.2.2.2.2.2
def Stk.mk (P : Nat) (FR : Nat → Nat) (FD : Nat → Nat) (FC : Nat → Nat) (NFp : Nat → Nat) (NLp : Nat → Nat) (LOp : Nat → Nat → Nat) (DP : Nat → Nat) (CA : Nat → Nat) (CF : Nat → Nat) (CL : Nat → Nat) (BH : Nat → Nat) (f : Nat → Int32) (hf : Nat → Int32) (lo : Nat → Int64) (lb : Nat → Int64) (la : Nat → Int32) (ll : Nat → Int32) (lc : Nat → Int32) (lp : Nat → Int32) (lu : Nat → Int32) (ld : Nat → Int32) (ad : Nat → Int32) : Stk := (P, FR, FD, FC, NFp, NLp, LOp, DP, CA, CF, CL, BH, f, hf, lo, lb, la, ll, lc, lp, lu, ld, ad)
/-- the number of dependencies of patch p -/
def Stk.nd (S : Stk) (p : Nat) : Nat := tw S.f (S.FR p)
/-- where the changes of patch p begin -/
def Stk.st (S : Stk) (p : Nat) : Nat := S.FR p + 2 + S.nd p * 32
/-- the number of changes of patch p -/
def Stk.nT (S : Stk) (p : Nat) : Nat := tw S.f (S.st p)
def Stk.dp (S : Stk) (p : Nat) : Nat → Nat := fun k => S.DP (S.FD p + k)
/-- patch p is a patch -/
def pInv (S : Stk) (p : Nat) : Prop := (kept S.f (S.FR p) (S.FR (p + 1))) ∧ (S.FD (p + 1) = S.FD p + S.nd p) ∧ (S.FC (p + 1) = S.FC p + S.nT p) ∧ (∀ j, j < S.nT p → S.CA (S.FC p + j) = sS S.f (S.FR (p + 1)) (S.st p + 2) j) ∧ (∀ k, k < S.nd p → S.dp p k < p ∧ sq S.hf (S.dp p k * 32) 32 = sq S.f (S.FR p + 2 + k * 32) 32) ∧ (rsA S.f (S.dp p) S.FC S.CA S.CF S.CL p (S.nd p) (S.FC p) (S.NFp p) (S.nT p)) ∧ (∀ j, j < S.nT p → S.CL (S.FC p + j) = NLs S.f S.CA (S.FC p) (S.NLp p) j) ∧ (S.NFp (p + 1) = NFs S.f S.CA (S.FC p) (S.NFp p) (S.nT p)) ∧ (S.NLp (p + 1) = NLs S.f S.CA (S.FC p) (S.NLp p) (S.nT p)) ∧ (S.LOp (p + 1) = lcs S.f S.CA S.CF (S.FC p) (S.nT p) (S.LOp p)) ∧ (∀ j, j < S.nT p → S.f (S.CA (S.FC p + j)) = 2 → liR S.f (S.dp p) S.FC S.CL p (S.nd p) (S.FC p + j) (S.CA (S.FC p + j)) (S.CL (S.FC p + j)) S.la S.ll S.lc S.lp S.lu S.ld) ∧ (∀ j, j < S.nT p → S.f (S.CA (S.FC p + j)) = 0 → S.ad (NFs S.f S.CA (S.FC p) (S.NFp p) j) = nI (S.FC p + j)) ∧ (∀ k, k < S.nd p → ¬ nmXs S.f (S.nd p) S.CA (S.FC p) (S.nT p) (fun _ => 0) k = 0) ∧ (∀ k, k < 32 → S.hf (p * 32 + k) = sh_outb (dg S.f (S.FR p) (S.FR (p + 1) - S.FR p)) k) ∧ (∀ n, n < 512 → (btr S.lo (p * 8) n = true ↔ ∃ k, k < S.nd p ∧ (n = S.dp p k ∨ btr S.lo (S.dp p k * 8) n = true)))
theorem pInv.kept {S : Stk} {p : Nat} (h9 : pInv S p) : kept S.f (S.FR p) (S.FR (p + 1)) := h9.1
theorem pInv.fd {S : Stk} {p : Nat} (h9 : pInv S p) : S.FD (p + 1) = S.FD p + S.nd p := h9.2.1
theorem pInv.fc {S : Stk} {p : Nat} (h9 : pInv S p) : S.FC (p + 1) = S.FC p + S.nT p := h9.2.2.1
theorem pInv.ca {S : Stk} {p : Nat} (h9 : pInv S p) : ∀ j, j < S.nT p → S.CA (S.FC p + j) = sS S.f (S.FR (p + 1)) (S.st p + 2) j := h9.2.2.2.1
theorem pInv.dep {S : Stk} {p : Nat} (h9 : pInv S p) : ∀ k, k < S.nd p → S.dp p k < p ∧ sq S.hf (S.dp p k * 32) 32 = sq S.f (S.FR p + 2 + k * 32) 32 := h9.2.2.2.2.1
theorem pInv.rs {S : Stk} {p : Nat} (h9 : pInv S p) : rsA S.f (S.dp p) S.FC S.CA S.CF S.CL p (S.nd p) (S.FC p) (S.NFp p) (S.nT p) := h9.2.2.2.2.2.1
theorem pInv.cl {S : Stk} {p : Nat} (h9 : pInv S p) : ∀ j, j < S.nT p → S.CL (S.FC p + j) = NLs S.f S.CA (S.FC p) (S.NLp p) j := h9.2.2.2.2.2.2.1
theorem pInv.nf {S : Stk} {p : Nat} (h9 : pInv S p) : S.NFp (p + 1) = NFs S.f S.CA (S.FC p) (S.NFp p) (S.nT p) := h9.2.2.2.2.2.2.2.1
theorem pInv.nl {S : Stk} {p : Nat} (h9 : pInv S p) : S.NLp (p + 1) = NLs S.f S.CA (S.FC p) (S.NLp p) (S.nT p) := h9.2.2.2.2.2.2.2.2.1
theorem pInv.lo {S : Stk} {p : Nat} (h9 : pInv S p) : S.LOp (p + 1) = lcs S.f S.CA S.CF (S.FC p) (S.nT p) (S.LOp p) := h9.2.2.2.2.2.2.2.2.2.1
theorem pInv.li {S : Stk} {p : Nat} (h9 : pInv S p) : ∀ j, j < S.nT p → S.f (S.CA (S.FC p + j)) = 2 → liR S.f (S.dp p) S.FC S.CL p (S.nd p) (S.FC p + j) (S.CA (S.FC p + j)) (S.CL (S.FC p + j)) S.la S.ll S.lc S.lp S.lu S.ld := h9.2.2.2.2.2.2.2.2.2.2.1
theorem pInv.ad {S : Stk} {p : Nat} (h9 : pInv S p) : ∀ j, j < S.nT p → S.f (S.CA (S.FC p + j)) = 0 → S.ad (NFs S.f S.CA (S.FC p) (S.NFp p) j) = nI (S.FC p + j) := h9.2.2.2.2.2.2.2.2.2.2.2.1
theorem pInv.nm {S : Stk} {p : Nat} (h9 : pInv S p) : ∀ k, k < S.nd p → ¬ nmXs S.f (S.nd p) S.CA (S.FC p) (S.nT p) (fun _ => 0) k = 0 := h9.2.2.2.2.2.2.2.2.2.2.2.2.1
theorem pInv.hs {S : Stk} {p : Nat} (h9 : pInv S p) : ∀ k, k < 32 → S.hf (p * 32 + k) = sh_outb (dg S.f (S.FR p) (S.FR (p + 1) - S.FR p)) k := h9.2.2.2.2.2.2.2.2.2.2.2.2.2.1
theorem pInv.ln {S : Stk} {p : Nat} (h9 : pInv S p) : ∀ n, n < 512 → (btr S.lo (p * 8) n = true ↔ ∃ k, k < S.nd p ∧ (n = S.dp p k ∨ btr S.lo (S.dp p k * 8) n = true)) := h9.2.2.2.2.2.2.2.2.2.2.2.2.2.2
/-- the stock is a stock -/
def sInv (S : Stk) : Prop := (S.P ≤ 500) ∧ (S.FR 0 = 0) ∧ (S.FD 0 = 0) ∧ (S.FC 0 = 0) ∧ (S.NFp 0 = 0) ∧ (S.NLp 0 = 0) ∧ (∀ y, S.LOp 0 y = 0) ∧ (∀ p, p < S.P → pInv S p) ∧ (S.FR S.P ≤ 200000) ∧ (S.NFp S.P ≤ 200) ∧ (S.NLp S.P ≤ 4000) ∧ (∀ y, S.LOp S.P y ≤ 400) ∧ (∀ i, i < S.P → S.BH i < S.P) ∧ (hs_up S.hf S.BH S.P) ∧ (∀ p, p < S.P → ∃ i, i < S.P ∧ S.BH i = p) ∧ (∀ k, S.P * 8 ≤ k → k < 4000 → S.lo k = 0) ∧ (∀ q n, q < 500 → n < 512 → btr S.lb (q * 8) n = (decide (n < S.P) && btr S.lo (n * 8) q))
theorem sInv.hP {S : Stk} (h9 : sInv S) : S.P ≤ 500 := h9.1
theorem sInv.fr0 {S : Stk} (h9 : sInv S) : S.FR 0 = 0 := h9.2.1
theorem sInv.fd0 {S : Stk} (h9 : sInv S) : S.FD 0 = 0 := h9.2.2.1
theorem sInv.fc0 {S : Stk} (h9 : sInv S) : S.FC 0 = 0 := h9.2.2.2.1
theorem sInv.nf0 {S : Stk} (h9 : sInv S) : S.NFp 0 = 0 := h9.2.2.2.2.1
theorem sInv.nl0 {S : Stk} (h9 : sInv S) : S.NLp 0 = 0 := h9.2.2.2.2.2.1
theorem sInv.lo0 {S : Stk} (h9 : sInv S) : ∀ y, S.LOp 0 y = 0 := h9.2.2.2.2.2.2.1
theorem sInv.pi {S : Stk} (h9 : sInv S) : ∀ p, p < S.P → pInv S p := h9.2.2.2.2.2.2.2.1
theorem sInv.frP {S : Stk} (h9 : sInv S) : S.FR S.P ≤ 200000 := h9.2.2.2.2.2.2.2.2.1
theorem sInv.nfP {S : Stk} (h9 : sInv S) : S.NFp S.P ≤ 200 := h9.2.2.2.2.2.2.2.2.2.1
theorem sInv.nlP {S : Stk} (h9 : sInv S) : S.NLp S.P ≤ 4000 := h9.2.2.2.2.2.2.2.2.2.2.1
theorem sInv.loP {S : Stk} (h9 : sInv S) : ∀ y, S.LOp S.P y ≤ 400 := h9.2.2.2.2.2.2.2.2.2.2.2.1
theorem sInv.bh {S : Stk} (h9 : sInv S) : ∀ i, i < S.P → S.BH i < S.P := h9.2.2.2.2.2.2.2.2.2.2.2.2.1
theorem sInv.up {S : Stk} (h9 : sInv S) : hs_up S.hf S.BH S.P := h9.2.2.2.2.2.2.2.2.2.2.2.2.2.1
theorem sInv.sur {S : Stk} (h9 : sInv S) : ∀ p, p < S.P → ∃ i, i < S.P ∧ S.BH i = p := h9.2.2.2.2.2.2.2.2.2.2.2.2.2.2.1
theorem sInv.lz {S : Stk} (h9 : sInv S) : ∀ k, S.P * 8 ≤ k → k < 4000 → S.lo k = 0 := h9.2.2.2.2.2.2.2.2.2.2.2.2.2.2.2.1
theorem sInv.lbz {S : Stk} (h9 : sInv S) : ∀ q n, q < 500 → n < 512 → btr S.lb (q * 8) n = (decide (n < S.P) && btr S.lo (n * 8) q) := h9.2.2.2.2.2.2.2.2.2.2.2.2.2.2.2.2
theorem chW.mono {f : Nat → Int32} {n m a : Nat} (h : n ≤ m) (hw : chW f n a) : chW f m a := by
  obtain ⟨h1, h2, h3, h4, h5⟩ := hw
  refine ⟨by omega, fun z => by have := h2 z; omega, fun z => ?_, fun z => by have := h4 z; omega, fun z => by have := h5 z; omega⟩
  obtain ⟨a1, a2, a3, a4⟩ := h3 z
  exact ⟨fun z => by have := a1 z; omega, by omega, fun z => by have := a3 z; omega, by omega⟩
theorem chain.len {f : Nat → Int32} {en a T : Nat} (h : chain f en a T) : ∀ j, j ≤ T → a + 7 * j ≤ sS f en a j
  | 0, _ => Nat.le_refl _
  | j + 1, hj => by
    have ih := chain.len h j (by omega)
    have := (h j (by omega)).2.le
    omega
theorem kept.len {f : Nat → Int32} {s0 en : Nat} (h : kept f s0 en) : s0 + 4 + tw f s0 * 32 + 7 * tw f (s0 + 2 + tw f s0 * 32) ≤ en := by
  have h1 := chain.len h.2.2.2.2.1 _ (Nat.le_refl _)
  have h2 := h.2.2.2.2.2
  omega
theorem pigeon : ∀ (m n : Nat) (g : Nat → Nat), (∀ i, i < n → g i < m) → (∀ i j, i < n → j < n → g i = g j → i = j) → n ≤ m
  | 0, n, g, h, _ => by
    rcases Nat.eq_zero_or_pos n with z | z
    · omega
    · exact absurd (h 0 z) (Nat.not_lt_zero _)
  | m + 1, 0, _, _, _ => Nat.zero_le _
  | m + 1, n + 1, g, h, hi => by
    have := pigeon m n (fun i => if g i = m then g n else g i) (fun i z => by
      have h1 := h i (by omega)
      have h2 := h n (by omega)
      by_cases e : g i = m
      · rw [if_pos e]
        have : ¬ g n = m := fun q => absurd (hi i n (by omega) (by omega) (e.trans q.symm)) (by omega)
        omega
      · rw [if_neg e]; omega) (fun i j zi zj e => by
      by_cases e1 : g i = m <;> by_cases e2 : g j = m
      · exact hi i j (by omega) (by omega) (e1.trans e2.symm)
      · rw [if_pos e1, if_neg e2] at e
        exact absurd (hi n j (by omega) (by omega) e) (by omega)
      · rw [if_neg e1, if_pos e2] at e
        exact absurd (hi i n (by omega) (by omega) e) (by omega)
      · rw [if_neg e1, if_neg e2] at e
        exact hi i j (by omega) (by omega) e)
    omega
theorem rising.lt {f : Nat → Int32} {a d i : Nat} (h : rising f a d) : ∀ {k}, i < k → k < d → sq f (a + i * 32) 32 < sq f (a + k * 32) 32
  | 0, h1, _ => absurd h1 (Nat.not_lt_zero _)
  | k + 1, h1, h2 => by
    by_cases e : i = k
    · subst e; exact h i h2
    · exact List.lt_trans (rising.lt h (i := i) (k := k) (by omega) (by omega)) (h k h2)
theorem rising.ne {f : Nat → Int32} {a d i k : Nat} (h : rising f a d) (h1 : i < k) (h2 : k < d) : ¬ sq f (a + i * 32) 32 = sq f (a + k * 32) 32 := fun e => by
  have := h.lt h1 h2
  rw [e] at this
  exact absurd this (List.lt_irrefl _)
theorem sInv.le1 {S : Stk} (I : sInv S) {p : Nat} (hp : p < S.P) : S.FR p + 4 + S.nd p * 32 + 7 * S.nT p ≤ S.FR (p + 1) := (I.pi p hp).kept.len
theorem sInv.frm {S : Stk} (I : sInv S) {i : Nat} : ∀ {k}, i ≤ k → k ≤ S.P → S.FR i ≤ S.FR k
  | 0, h, _ => by rw [show i = 0 by omega]; exact Nat.le_refl _
  | k + 1, h, hk => by
    by_cases e : i = k + 1
    · rw [e]; exact Nat.le_refl _
    · have := sInv.frm I (i := i) (k := k) (by omega) (by omega)
      have := I.le1 (p := k) (by omega)
      omega
theorem sInv.fcm {S : Stk} (I : sInv S) {i : Nat} : ∀ {k}, i ≤ k → k ≤ S.P → S.FC i ≤ S.FC k
  | 0, h, _ => by rw [show i = 0 by omega]; exact Nat.le_refl _
  | k + 1, h, hk => by
    by_cases e : i = k + 1
    · rw [e]; exact Nat.le_refl _
    · have := sInv.fcm I (i := i) (k := k) (by omega) (by omega)
      have := (I.pi k (by omega)).fc
      omega
theorem sInv.fdm {S : Stk} (I : sInv S) {i : Nat} : ∀ {k}, i ≤ k → k ≤ S.P → S.FD i ≤ S.FD k
  | 0, h, _ => by rw [show i = 0 by omega]; exact Nat.le_refl _
  | k + 1, h, hk => by
    by_cases e : i = k + 1
    · rw [e]; exact Nat.le_refl _
    · have := sInv.fdm I (i := i) (k := k) (by omega) (by omega)
      have := (I.pi k (by omega)).fd
      omega
theorem sInv.nfm {S : Stk} (I : sInv S) {i : Nat} : ∀ {k}, i ≤ k → k ≤ S.P → S.NFp i ≤ S.NFp k
  | 0, h, _ => by rw [show i = 0 by omega]; exact Nat.le_refl _
  | k + 1, h, hk => by
    by_cases e : i = k + 1
    · rw [e]; exact Nat.le_refl _
    · have h1 := sInv.nfm I (i := i) (k := k) (by omega) (by omega)
      have h2 := (I.pi k (by omega)).nf
      have h3 := NFs_mono S.f S.CA (S.FC k) (S.NFp k) (i := 0) (j := S.nT k) (Nat.zero_le _)
      have h3 : S.NFp k ≤ NFs S.f S.CA (S.FC k) (S.NFp k) (S.nT k) := h3
      omega
theorem sInv.nlm {S : Stk} (I : sInv S) {i : Nat} : ∀ {k}, i ≤ k → k ≤ S.P → S.NLp i ≤ S.NLp k
  | 0, h, _ => by rw [show i = 0 by omega]; exact Nat.le_refl _
  | k + 1, h, hk => by
    by_cases e : i = k + 1
    · rw [e]; exact Nat.le_refl _
    · have h1 := sInv.nlm I (i := i) (k := k) (by omega) (by omega)
      have h2 := (I.pi k (by omega)).nl
      have h3 := NLs_mono S.f S.CA (S.FC k) (S.NLp k) (i := 0) (j := S.nT k) (Nat.zero_le _)
      have h3 : S.NLp k ≤ NLs S.f S.CA (S.FC k) (S.NLp k) (S.nT k) := h3
      omega
theorem sInv.room {S : Stk} (I : sInv S) : ∀ {k}, k ≤ S.P → S.FD k * 32 + S.FC k * 7 ≤ S.FR k
  | 0, _ => by rw [I.fd0, I.fc0]; exact Nat.zero_le _
  | k + 1, hk => by
    have := sInv.room I (k := k) (by omega)
    have h1 := I.le1 (p := k) (by omega)
    have h2 := (I.pi k (by omega)).fd
    have h3 := (I.pi k (by omega)).fc
    omega
/-- every change has its patch -/
theorem sInv.own {S : Stk} (I : sInv S) {c : Nat} : ∀ {k}, k ≤ S.P → c < S.FC k → ∃ p j, p < k ∧ j < S.nT p ∧ c = S.FC p + j
  | 0, _, h => by rw [I.fc0] at h; exact absurd h (Nat.not_lt_zero _)
  | k + 1, hk, h => by
    by_cases e : c < S.FC k
    · obtain ⟨p, j, h1, h2, h3⟩ := sInv.own I (k := k) (by omega) e
      exact ⟨p, j, by omega, h2, h3⟩
    · have := (I.pi k (by omega)).fc
      exact ⟨k, c - S.FC k, by omega, by omega, by omega⟩
theorem sInv.chg {S : Stk} (I : sInv S) {p j : Nat} (hp : p < S.P) (hj : j < S.nT p) : chR S.f (S.FR (p + 1)) (S.CA (S.FC p + j)) (sS S.f (S.FR (p + 1)) (S.st p + 2) (j + 1)) := by
  have h := (I.pi p hp)
  rw [h.ca j hj]
  exact (h.kept.2.2.2.2.1 j hj).2
theorem sInv.chw {S : Stk} (I : sInv S) {x : Nat} {k : Nat} (hk : k ≤ S.P) (hx : x < S.FC k) : chW S.f (S.FR k) (S.CA x) := by
  obtain ⟨p, j, h1, h2, rfl⟩ := I.own hk hx
  exact (I.chg (by omega) h2).W.mono (I.frm (by omega) hk)
theorem sInv.ndl {S : Stk} (I : sInv S) {p : Nat} (hp : p < S.P) : S.nd p ≤ p := by
  have h := I.pi p hp
  refine pigeon p (S.nd p) (S.dp p) (fun k z => (h.dep k z).1) (fun i k hi hk e => ?_)
  have e1 := (h.dep i hi).2
  have e2 := (h.dep k hk).2
  rw [e] at e1
  have e3 := e1.symm.trans e2
  rcases Nat.lt_trichotomy i k with z | z | z
  · exact absurd e3 (rising.ne h.kept.2.2.1 z hk)
  · exact z
  · exact absurd e3.symm (rising.ne h.kept.2.2.1 z hi)
end
section
/-! 78.alike.lean.txt -/
theorem sh_outb_congr {f f' : Nat → Int32} {k : Nat} (h : ∀ j, j < 8 → f j = f' j) (hk : k < 32) : sh_outb f k = sh_outb f' k := by
  unfold sh_outb
  rw [h (k / 4) (by omega)]
theorem NFs_cg {f g : Nat → Int32} {CA CA₇ : Nat → Nat} {c0 NF0 : Nat} : ∀ {j}, (∀ i, i < j → CA (c0 + i) = CA₇ (c0 + i) ∧ f (CA (c0 + i)) = g (CA (c0 + i))) → NFs f CA c0 NF0 j = NFs g CA₇ c0 NF0 j
  | 0, _ => rfl
  | j + 1, h => by
    have h1 := NFs_cg (j := j) (fun i z => h i (by omega)) (NF0 := NF0)
    obtain ⟨h2, h3⟩ := h j (by omega)
    show NFX f _ _ = NFX g _ _
    unfold NFX
    rw [h1, ← h2, h3]
theorem NLs_cg {f g : Nat → Int32} {CA CA₇ : Nat → Nat} {c0 NL0 : Nat} : ∀ {j}, (∀ i, i < j → CA (c0 + i) = CA₇ (c0 + i) ∧ f (CA (c0 + i)) = g (CA (c0 + i)) ∧ (f (CA (c0 + i)) = 2 → tw f (lnAt f (CA (c0 + i))) = tw g (lnAt g (CA (c0 + i))))) → NLs f CA c0 NL0 j = NLs g CA₇ c0 NL0 j
  | 0, _ => rfl
  | j + 1, h => by
    have h1 := NLs_cg (j := j) (fun i z => h i (by omega)) (NL0 := NL0)
    obtain ⟨h2, h3, h4⟩ := h j (by omega)
    show NLX f _ _ = NLX g _ _
    unfold NLX
    rw [h1, ← h2, ← h3]
    by_cases e : f (CA (c0 + j)) = 2
    · rw [if_pos e, if_pos e, h4 e]
    · rw [if_neg e, if_neg e]
theorem lcs_cg {f g : Nat → Int32} {CA CA₇ CF CF₇ LO : Nat → Nat} {c0 : Nat} : ∀ {j}, (∀ i, i < j → CA (c0 + i) = CA₇ (c0 + i) ∧ CF (c0 + i) = CF₇ (c0 + i) ∧ f (CA (c0 + i)) = g (CA (c0 + i)) ∧ (f (CA (c0 + i)) = 2 → tw f (lnAt f (CA (c0 + i))) = tw g (lnAt g (CA (c0 + i))))) → lcs f CA CF c0 j LO = lcs g CA₇ CF₇ c0 j LO
  | 0, _ => rfl
  | j + 1, h => by
    have h1 := lcs_cg (j := j) (fun i z => h i (by omega)) (LO := LO)
    obtain ⟨h2, h5, h3, h4⟩ := h j (by omega)
    unfold lcs
    rw [h1, ← h2, ← h3, ← h5]
    by_cases e : f (CA (c0 + j)) = 2
    · rw [if_pos e, if_pos e, h4 e]
    · rw [if_neg e, if_neg e]
theorem nmU_cg {f g : Nat → Int32} {n nd k : Nat} {nf : Nat → Int32} (hg : ∀ i, i < n → f i = g i) (hk : k + 1 < n) : nmU f nd k nf = nmU g nd k nf := by
  unfold nmU
  rw [tw_cg hg hk]
theorem nmUs_cg {f g : Nat → Int32} {n nd k : Nat} {nf : Nat → Int32} (hg : ∀ i, i < n → f i = g i) : ∀ {i}, k + 4 * i ≤ n → nmUs f nd k i nf = nmUs g nd k i nf
  | 0, _ => rfl
  | i + 1, h => by
    show nmU f nd _ _ = nmU g nd _ _
    rw [nmUs_cg hg (i := i) (by omega), nmU_cg hg (by omega)]
theorem nmX_cg {f g : Nat → Int32} {n nd a : Nat} {nf : Nat → Int32} (hg : ∀ i, i < n → f i = g i) (hw : chW f n a) (hK : ∃ j, j < 5 ∧ f a = nI j) : nmX f nd a nf = nmX g nd a nf := by
  have h1 := hw.1
  unfold nmX
  rw [← hg a (by omega), ← hg (a + 5) h1]
  by_cases e0 : f a = 0
  · rw [if_pos e0, if_pos e0]
  rw [if_neg e0, if_neg e0]
  by_cases e1 : f a = 1
  · have := hw.2.1 e1
    rw [if_pos e1, if_pos e1, nmU_cg hg (k := a + 1) (by omega), nmUs_cg hg (by omega)]
  rw [if_neg e1, if_neg e1]
  by_cases e2 : f a = 2
  · obtain ⟨w1, w2, w3, w4⟩ := hw.2.2.1 e2
    rw [if_pos e2, if_pos e2]
    unfold nmI
    rw [← plEnd_cg hg h1, ← hg (a + 5) h1, ← hg _ w2, nmU_cg hg (k := a + 1) (by omega)]
    by_cases z1 : f (a + 5) = 0 <;> by_cases z2 : f (plEnd f (a + 5)) = 0
    · rw [if_pos z2, if_pos z2, if_pos z1, if_pos z1]
    · have := w3 z2
      rw [if_neg z2, if_neg z2, if_pos z1, if_pos z1, nmU_cg hg (k := plEnd f (a + 5) + 1) (by omega)]
    · have := w1 z1
      rw [if_pos z2, if_pos z2, if_neg z1, if_neg z1, nmU_cg hg (k := a + 5 + 1) (by omega)]
    · have := w1 z1
      have := w3 z2
      rw [if_neg z2, if_neg z2, if_neg z1, if_neg z1, nmU_cg hg (k := a + 5 + 1) (by omega), nmU_cg hg (k := plEnd f (a + 5) + 1) (by omega)]
  rw [if_neg e2, if_neg e2]
  by_cases e3 : f a = 3
  · rw [if_pos e3, if_pos e3, nmU_cg hg (k := a + 1) (by omega)]
  rw [if_neg e3, if_neg e3]
  obtain ⟨j, hj, e⟩ := hK
  have e4 : f a = 4 := by
    match j, hj with
    | 0, _ => exact absurd e e0
    | 1, _ => exact absurd e e1
    | 2, _ => exact absurd e e2
    | 3, _ => exact absurd e e3
    | 4, _ => exact e
  have := hw.2.2.2.2 e4
  rw [nmU_cg hg (k := a + 1) (by omega), nmU_cg hg (k := a + 7) (by omega)]
theorem nmXs_cg {f g : Nat → Int32} {n nd c0 : Nat} {CA CA₇ : Nat → Nat} {nf : Nat → Int32} (hg : ∀ i, i < n → f i = g i) : ∀ {j}, (∀ i, i < j → CA (c0 + i) = CA₇ (c0 + i) ∧ chW f n (CA (c0 + i)) ∧ ∃ q, q < 5 ∧ f (CA (c0 + i)) = nI q) → nmXs f nd CA c0 j nf = nmXs g nd CA₇ c0 j nf
  | 0, _ => rfl
  | j + 1, h => by
    obtain ⟨h1, h2, h3⟩ := h j (by omega)
    show nmX f nd _ _ = nmX g nd _ _
    rw [nmXs_cg hg (j := j) (fun i z => h i (by omega)), ← h1, nmX_cg hg h2 h3]
theorem chR.kd {f : Nat → Int32} {en a b : Nat} (h : chR f en a b) : ∃ j, j < 5 ∧ f a = nI j := by
  rcases h with ⟨e, _⟩ | ⟨e, _⟩ | ⟨e, _⟩ | ⟨e, _⟩ | ⟨e, _⟩
  · exact ⟨0, by omega, e⟩
  · exact ⟨1, by omega, e⟩
  · exact ⟨2, by omega, e⟩
  · exact ⟨3, by omega, e⟩
  · exact ⟨4, by omega, e⟩
theorem lnP_cg {f g : Nat → Int32} {n b : Nat} (hg : ∀ i, i < n → f i = g i) : ∀ {i}, (∀ q, q < i → lnP f b q + 1 < n) → lnP f b i = lnP g b i
  | 0, _ => rfl
  | i + 1, h => by
    have h1 := lnP_cg hg (i := i) (fun q z => h q (by omega))
    show lnP f b i + 2 + tw f (lnP f b i) = lnP g b i + 2 + tw g (lnP g b i)
    rw [← h1, tw_cg hg (h i (by omega))]
theorem insR.P {f : Nat → Int32} {en a b : Nat} (h : insR f en a b) : ∀ q, q < tw f (lnAt f a) → lnR f en (lnP f (lnAt f a + 2) q) (lnP f (lnAt f a + 2) (q + 1)) := by
  obtain ⟨q1, q2, p1, p2, p3, p4, p5⟩ := h
  have e : lnAt f a = q2 := by unfold lnAt; rw [p1.end, p2.end]
  rw [e]
  exact p5.at
theorem liR.cg {f g : Nat → Int32} {DP DP₇ FC FC₇ CA CA₇ CF CF₇ CL CL₇ : Nat → Nat} {n P nd c a b n0 : Nat} {la ll lc lp lu ld : Nat → Int32} (A : Agr f g DP DP₇ FC FC₇ CA CA₇ CF CF₇ CL CL₇ n P nd c) (he : f a = 2) (hc : chR f n a b) (h : liR f DP FC CL P nd c a n0 la ll lc lp lu ld) : liR g DP₇ FC₇ CL₇ P nd c a n0 la ll lc lp lu ld := by
  have hw := hc.W
  obtain ⟨w1, w2, w3, w4⟩ := hw.2.2.1 he
  have hP := insR.P (chR_2 he hc)
  have e1 : lnAt f a = lnAt g a := lnAt_cg A.hf hw.1 w2
  have e2 := plEnd_cg A.hf hw.1
  have e3 : tw f (lnAt f a) = tw g (lnAt g a) := by rw [← e1]; exact tw_cg A.hf w4
  intro q hq
  rw [← e3] at hq
  obtain ⟨h1, h2, h3, h4, h5, h6⟩ := h q hq
  have e4 : lnP f (lnAt f a + 2) q = lnP g (lnAt f a + 2) q := lnP_cg A.hf (fun r z => by have := (hP r (by omega)).1; omega)
  have e5 := (hP q hq).1
  rw [← e1, ← e4, ← tw_cg A.hf (k := lnP f (lnAt f a + 2) q) (by omega), ← e2]
  exact ⟨h1, h2, h3, h4, A.up hw.1 (fun z => by have := w1 z; omega) h5, A.up w2 (fun z => by have := w3 z; omega) h6⟩
end
section
/-! 79.old.lean.txt -/
/-- where the changes stand, those of the candidate among them -/
noncomputable def caX (S : Stk) (bf : Nat → Int32) (en : Nat) : Nat → Nat := fun i => if i < S.FC S.P then S.CA i else sS bf en (S.FR S.P + 2 + tw bf (S.FR S.P) * 32 + 2) (i - S.FC S.P)
/-- the candidate is a patch -/
def cand (S : Stk) (bf : Nat → Int32) (en : Nat) (DPn CF1 : Nat → Nat) (nd T : Nat) : Prop := (∀ i, i < S.FR S.P → S.f i = bf i) ∧ (nd = tw bf (S.FR S.P)) ∧ (T = tw bf (S.FR S.P + 2 + nd * 32)) ∧ (kept bf (S.FR S.P) en) ∧ (∀ k, k < nd → DPn k < S.P ∧ sq S.hf (DPn k * 32) 32 = sq bf (S.FR S.P + 2 + k * 32) 32) ∧ (∀ i, i < S.FC S.P → CF1 i = S.CF i) ∧ (rsA bf DPn S.FC (caX S bf en) CF1 (clX bf (caX S bf en) S.CL (S.FC S.P) (S.NLp S.P)) S.P nd (S.FC S.P) (S.NFp S.P) T) ∧ (∀ k, k < nd → ¬ nmXs bf nd (caX S bf en) (S.FC S.P) T (fun _ => 0) k = 0)
theorem cand.agr {S : Stk} {bf : Nat → Int32} {en : Nat} {DPn CF1 : Nat → Nat} {nd T : Nat} (h9 : cand S bf en DPn CF1 nd T) : ∀ i, i < S.FR S.P → S.f i = bf i := h9.1
theorem cand.hnd {S : Stk} {bf : Nat → Int32} {en : Nat} {DPn CF1 : Nat → Nat} {nd T : Nat} (h9 : cand S bf en DPn CF1 nd T) : nd = tw bf (S.FR S.P) := h9.2.1
theorem cand.hT {S : Stk} {bf : Nat → Int32} {en : Nat} {DPn CF1 : Nat → Nat} {nd T : Nat} (h9 : cand S bf en DPn CF1 nd T) : T = tw bf (S.FR S.P + 2 + nd * 32) := h9.2.2.1
theorem cand.kept {S : Stk} {bf : Nat → Int32} {en : Nat} {DPn CF1 : Nat → Nat} {nd T : Nat} (h9 : cand S bf en DPn CF1 nd T) : kept bf (S.FR S.P) en := h9.2.2.2.1
theorem cand.dep {S : Stk} {bf : Nat → Int32} {en : Nat} {DPn CF1 : Nat → Nat} {nd T : Nat} (h9 : cand S bf en DPn CF1 nd T) : ∀ k, k < nd → DPn k < S.P ∧ sq S.hf (DPn k * 32) 32 = sq bf (S.FR S.P + 2 + k * 32) 32 := h9.2.2.2.2.1
theorem cand.cf {S : Stk} {bf : Nat → Int32} {en : Nat} {DPn CF1 : Nat → Nat} {nd T : Nat} (h9 : cand S bf en DPn CF1 nd T) : ∀ i, i < S.FC S.P → CF1 i = S.CF i := h9.2.2.2.2.2.1
theorem cand.rs {S : Stk} {bf : Nat → Int32} {en : Nat} {DPn CF1 : Nat → Nat} {nd T : Nat} (h9 : cand S bf en DPn CF1 nd T) : rsA bf DPn S.FC (caX S bf en) CF1 (clX bf (caX S bf en) S.CL (S.FC S.P) (S.NLp S.P)) S.P nd (S.FC S.P) (S.NFp S.P) T := h9.2.2.2.2.2.2.1
theorem cand.nm {S : Stk} {bf : Nat → Int32} {en : Nat} {DPn CF1 : Nat → Nat} {nd T : Nat} (h9 : cand S bf en DPn CF1 nd T) : ∀ k, k < nd → ¬ nmXs bf nd (caX S bf en) (S.FC S.P) T (fun _ => 0) k = 0 := h9.2.2.2.2.2.2.2
/-- the stock with the candidate kept -/
noncomputable def Stk.ext (S : Stk) (bf : Nat → Int32) (en : Nat) (DPn CF1 BH1 : Nat → Nat) (nd T : Nat) (hf1 : Nat → Int32) (lo1 lb1 : Nat → Int64) (la ll lc lp lu ld ad : Nat → Int32) : Stk := Stk.mk (S.P + 1) (upN S.FR (S.P + 1) en) (upN S.FD (S.P + 1) (S.FD S.P + nd)) (upN S.FC (S.P + 1) (S.FC S.P + T)) (upN S.NFp (S.P + 1) (NFs bf (caX S bf en) (S.FC S.P) (S.NFp S.P) T)) (upN S.NLp (S.P + 1) (NLs bf (caX S bf en) (S.FC S.P) (S.NLp S.P) T)) (fun i => if i = S.P + 1 then lcs bf (caX S bf en) CF1 (S.FC S.P) T (S.LOp S.P) else S.LOp i) (fun i => if i < S.FD S.P then S.DP i else DPn (i - S.FD S.P)) (caX S bf en) (CF1) (clX bf (caX S bf en) S.CL (S.FC S.P) (S.NLp S.P)) (BH1) (bf) (hf1) (lo1) (lb1) (la) (ll) (lc) (lp) (lu) (ld) (ad)
theorem caX_lt {S : Stk} {bf : Nat → Int32} {en i : Nat} (h : i < S.FC S.P) : caX S bf en i = S.CA i := if_pos h
theorem caX_ge {S : Stk} {bf : Nat → Int32} {en j : Nat} : caX S bf en (S.FC S.P + j) = sS bf en (S.FR S.P + 2 + tw bf (S.FR S.P) * 32 + 2) j := by
  unfold caX
  rw [if_neg (by omega), Nat.add_sub_cancel_left]
theorem clX_lt {f : Nat → Int32} {CA CL : Nat → Nat} {c0 NL0 i : Nat} (h : i < c0) : clX f CA CL c0 NL0 i = CL i := if_pos h
/-- what a candidate brings, beyond being a patch, so that the stock with it is a stock -/
def more (S : Stk) (bf : Nat → Int32) (en : Nat) (DPn CF1 BH1 : Nat → Nat) (nd T : Nat) (hf1 : Nat → Int32) (lo1 lb1 : Nat → Int64) (la ll lc lp lu ld ad : Nat → Int32) : Prop := (S.P < 500) ∧ (en ≤ 200000) ∧ (NFs bf (caX S bf en) (S.FC S.P) (S.NFp S.P) T ≤ 200) ∧ (NLs bf (caX S bf en) (S.FC S.P) (S.NLp S.P) T ≤ 4000) ∧ (∀ y, lcs bf (caX S bf en) CF1 (S.FC S.P) T (S.LOp S.P) y ≤ 400) ∧ (∀ i, i < S.P + 1 → BH1 i < S.P + 1) ∧ (hs_up hf1 BH1 (S.P + 1)) ∧ (∀ p, p < S.P + 1 → ∃ i, i < S.P + 1 ∧ BH1 i = p) ∧ (∀ i, i < S.P * 32 → hf1 i = S.hf i) ∧ (∀ k, k < 32 → hf1 (S.P * 32 + k) = sh_outb (dg bf (S.FR S.P) (en - S.FR S.P)) k) ∧ (lnO S.lo lo1 DPn S.P nd) ∧ (lb1 = lbX S.lb lo1 S.P S.P) ∧ (∀ j, j < T → bf (caX S bf en (S.FC S.P + j)) = 2 → liR bf DPn S.FC (clX bf (caX S bf en) S.CL (S.FC S.P) (S.NLp S.P)) S.P nd (S.FC S.P + j) (caX S bf en (S.FC S.P + j)) (NLs bf (caX S bf en) (S.FC S.P) (S.NLp S.P) j) la ll lc lp lu ld) ∧ (∀ q, q < S.NLp S.P → la q = S.la q ∧ ll q = S.ll q ∧ lc q = S.lc q ∧ lp q = S.lp q ∧ lu q = S.lu q ∧ ld q = S.ld q) ∧ (∀ j, j < T → bf (caX S bf en (S.FC S.P + j)) = 0 → ad (NFs bf (caX S bf en) (S.FC S.P) (S.NFp S.P) j) = nI (S.FC S.P + j)) ∧ (∀ i, i < S.NFp S.P → ad i = S.ad i)
theorem more.hP {S : Stk} {bf : Nat → Int32} {en : Nat} {DPn CF1 BH1 : Nat → Nat} {nd T : Nat} {hf1 : Nat → Int32} {lo1 lb1 : Nat → Int64} {la ll lc lp lu ld ad : Nat → Int32} (h9 : more S bf en DPn CF1 BH1 nd T hf1 lo1 lb1 la ll lc lp lu ld ad) : S.P < 500 := h9.1
theorem more.hen {S : Stk} {bf : Nat → Int32} {en : Nat} {DPn CF1 BH1 : Nat → Nat} {nd T : Nat} {hf1 : Nat → Int32} {lo1 lb1 : Nat → Int64} {la ll lc lp lu ld ad : Nat → Int32} (h9 : more S bf en DPn CF1 BH1 nd T hf1 lo1 lb1 la ll lc lp lu ld ad) : en ≤ 200000 := h9.2.1
theorem more.nf {S : Stk} {bf : Nat → Int32} {en : Nat} {DPn CF1 BH1 : Nat → Nat} {nd T : Nat} {hf1 : Nat → Int32} {lo1 lb1 : Nat → Int64} {la ll lc lp lu ld ad : Nat → Int32} (h9 : more S bf en DPn CF1 BH1 nd T hf1 lo1 lb1 la ll lc lp lu ld ad) : NFs bf (caX S bf en) (S.FC S.P) (S.NFp S.P) T ≤ 200 := h9.2.2.1
theorem more.nl {S : Stk} {bf : Nat → Int32} {en : Nat} {DPn CF1 BH1 : Nat → Nat} {nd T : Nat} {hf1 : Nat → Int32} {lo1 lb1 : Nat → Int64} {la ll lc lp lu ld ad : Nat → Int32} (h9 : more S bf en DPn CF1 BH1 nd T hf1 lo1 lb1 la ll lc lp lu ld ad) : NLs bf (caX S bf en) (S.FC S.P) (S.NLp S.P) T ≤ 4000 := h9.2.2.2.1
theorem more.lo {S : Stk} {bf : Nat → Int32} {en : Nat} {DPn CF1 BH1 : Nat → Nat} {nd T : Nat} {hf1 : Nat → Int32} {lo1 lb1 : Nat → Int64} {la ll lc lp lu ld ad : Nat → Int32} (h9 : more S bf en DPn CF1 BH1 nd T hf1 lo1 lb1 la ll lc lp lu ld ad) : ∀ y, lcs bf (caX S bf en) CF1 (S.FC S.P) T (S.LOp S.P) y ≤ 400 := h9.2.2.2.2.1
theorem more.bh {S : Stk} {bf : Nat → Int32} {en : Nat} {DPn CF1 BH1 : Nat → Nat} {nd T : Nat} {hf1 : Nat → Int32} {lo1 lb1 : Nat → Int64} {la ll lc lp lu ld ad : Nat → Int32} (h9 : more S bf en DPn CF1 BH1 nd T hf1 lo1 lb1 la ll lc lp lu ld ad) : ∀ i, i < S.P + 1 → BH1 i < S.P + 1 := h9.2.2.2.2.2.1
theorem more.up {S : Stk} {bf : Nat → Int32} {en : Nat} {DPn CF1 BH1 : Nat → Nat} {nd T : Nat} {hf1 : Nat → Int32} {lo1 lb1 : Nat → Int64} {la ll lc lp lu ld ad : Nat → Int32} (h9 : more S bf en DPn CF1 BH1 nd T hf1 lo1 lb1 la ll lc lp lu ld ad) : hs_up hf1 BH1 (S.P + 1) := h9.2.2.2.2.2.2.1
theorem more.sur {S : Stk} {bf : Nat → Int32} {en : Nat} {DPn CF1 BH1 : Nat → Nat} {nd T : Nat} {hf1 : Nat → Int32} {lo1 lb1 : Nat → Int64} {la ll lc lp lu ld ad : Nat → Int32} (h9 : more S bf en DPn CF1 BH1 nd T hf1 lo1 lb1 la ll lc lp lu ld ad) : ∀ p, p < S.P + 1 → ∃ i, i < S.P + 1 ∧ BH1 i = p := h9.2.2.2.2.2.2.2.1
theorem more.hf {S : Stk} {bf : Nat → Int32} {en : Nat} {DPn CF1 BH1 : Nat → Nat} {nd T : Nat} {hf1 : Nat → Int32} {lo1 lb1 : Nat → Int64} {la ll lc lp lu ld ad : Nat → Int32} (h9 : more S bf en DPn CF1 BH1 nd T hf1 lo1 lb1 la ll lc lp lu ld ad) : ∀ i, i < S.P * 32 → hf1 i = S.hf i := h9.2.2.2.2.2.2.2.2.1
theorem more.hs {S : Stk} {bf : Nat → Int32} {en : Nat} {DPn CF1 BH1 : Nat → Nat} {nd T : Nat} {hf1 : Nat → Int32} {lo1 lb1 : Nat → Int64} {la ll lc lp lu ld ad : Nat → Int32} (h9 : more S bf en DPn CF1 BH1 nd T hf1 lo1 lb1 la ll lc lp lu ld ad) : ∀ k, k < 32 → hf1 (S.P * 32 + k) = sh_outb (dg bf (S.FR S.P) (en - S.FR S.P)) k := h9.2.2.2.2.2.2.2.2.2.1
theorem more.ln {S : Stk} {bf : Nat → Int32} {en : Nat} {DPn CF1 BH1 : Nat → Nat} {nd T : Nat} {hf1 : Nat → Int32} {lo1 lb1 : Nat → Int64} {la ll lc lp lu ld ad : Nat → Int32} (h9 : more S bf en DPn CF1 BH1 nd T hf1 lo1 lb1 la ll lc lp lu ld ad) : lnO S.lo lo1 DPn S.P nd := h9.2.2.2.2.2.2.2.2.2.2.1
theorem more.lb {S : Stk} {bf : Nat → Int32} {en : Nat} {DPn CF1 BH1 : Nat → Nat} {nd T : Nat} {hf1 : Nat → Int32} {lo1 lb1 : Nat → Int64} {la ll lc lp lu ld ad : Nat → Int32} (h9 : more S bf en DPn CF1 BH1 nd T hf1 lo1 lb1 la ll lc lp lu ld ad) : lb1 = lbX S.lb lo1 S.P S.P := h9.2.2.2.2.2.2.2.2.2.2.2.1
theorem more.li {S : Stk} {bf : Nat → Int32} {en : Nat} {DPn CF1 BH1 : Nat → Nat} {nd T : Nat} {hf1 : Nat → Int32} {lo1 lb1 : Nat → Int64} {la ll lc lp lu ld ad : Nat → Int32} (h9 : more S bf en DPn CF1 BH1 nd T hf1 lo1 lb1 la ll lc lp lu ld ad) : ∀ j, j < T → bf (caX S bf en (S.FC S.P + j)) = 2 → liR bf DPn S.FC (clX bf (caX S bf en) S.CL (S.FC S.P) (S.NLp S.P)) S.P nd (S.FC S.P + j) (caX S bf en (S.FC S.P + j)) (NLs bf (caX S bf en) (S.FC S.P) (S.NLp S.P) j) la ll lc lp lu ld := h9.2.2.2.2.2.2.2.2.2.2.2.2.1
theorem more.lis {S : Stk} {bf : Nat → Int32} {en : Nat} {DPn CF1 BH1 : Nat → Nat} {nd T : Nat} {hf1 : Nat → Int32} {lo1 lb1 : Nat → Int64} {la ll lc lp lu ld ad : Nat → Int32} (h9 : more S bf en DPn CF1 BH1 nd T hf1 lo1 lb1 la ll lc lp lu ld ad) : ∀ q, q < S.NLp S.P → la q = S.la q ∧ ll q = S.ll q ∧ lc q = S.lc q ∧ lp q = S.lp q ∧ lu q = S.lu q ∧ ld q = S.ld q := h9.2.2.2.2.2.2.2.2.2.2.2.2.2.1
theorem more.gad {S : Stk} {bf : Nat → Int32} {en : Nat} {DPn CF1 BH1 : Nat → Nat} {nd T : Nat} {hf1 : Nat → Int32} {lo1 lb1 : Nat → Int64} {la ll lc lp lu ld ad : Nat → Int32} (h9 : more S bf en DPn CF1 BH1 nd T hf1 lo1 lb1 la ll lc lp lu ld ad) : ∀ j, j < T → bf (caX S bf en (S.FC S.P + j)) = 0 → ad (NFs bf (caX S bf en) (S.FC S.P) (S.NFp S.P) j) = nI (S.FC S.P + j) := h9.2.2.2.2.2.2.2.2.2.2.2.2.2.2.1
theorem more.ads {S : Stk} {bf : Nat → Int32} {en : Nat} {DPn CF1 BH1 : Nat → Nat} {nd T : Nat} {hf1 : Nat → Int32} {lo1 lb1 : Nat → Int64} {la ll lc lp lu ld ad : Nat → Int32} (h9 : more S bf en DPn CF1 BH1 nd T hf1 lo1 lb1 la ll lc lp lu ld ad) : ∀ i, i < S.NFp S.P → ad i = S.ad i := h9.2.2.2.2.2.2.2.2.2.2.2.2.2.2.2
section
variable {S : Stk} {bf : Nat → Int32} {en : Nat} {DPn CF1 BH1 : Nat → Nat} {nd T : Nat} {hf1 : Nat → Int32} {lo1 lb1 : Nat → Int64} {la ll lc lp lu ld ad : Nat → Int32}
/-- the patches that were there stay -/
theorem sInv.old (I : sInv S) (C : cand S bf en DPn CF1 nd T) (M : more S bf en DPn CF1 BH1 nd T hf1 lo1 lb1 la ll lc lp lu ld ad) {p : Nat} (hp : p < S.P) : pInv (S.ext bf en DPn CF1 BH1 nd T hf1 lo1 lb1 la ll lc lp lu ld ad) p := by
  have h := I.pi p hp
  generalize hS : S.ext bf en DPn CF1 BH1 nd T hf1 lo1 lb1 la ll lc lp lu ld ad = S₇
  have eP : S₇.f = bf := by rw [← hS]; rfl
  have eF : ∀ i, i ≤ S.P → S₇.FR i = S.FR i := fun i z => by rw [← hS]; exact upN_ne _ (by omega)
  have eD : ∀ i, i ≤ S.P → S₇.FD i = S.FD i := fun i z => by rw [← hS]; exact upN_ne _ (by omega)
  have eC : ∀ i, i ≤ S.P → S₇.FC i = S.FC i := fun i z => by rw [← hS]; exact upN_ne _ (by omega)
  have eN : ∀ i, i ≤ S.P → S₇.NFp i = S.NFp i := fun i z => by rw [← hS]; exact upN_ne _ (by omega)
  have eL : ∀ i, i ≤ S.P → S₇.NLp i = S.NLp i := fun i z => by rw [← hS]; exact upN_ne _ (by omega)
  have eO : ∀ i, i ≤ S.P → S₇.LOp i = S.LOp i := fun i z => by rw [← hS]; exact if_neg (by omega)
  have eA : S₇.CA = caX S bf en := by rw [← hS]; rfl
  have eCF : S₇.CF = CF1 := by rw [← hS]; rfl
  have eCL : S₇.CL = clX bf (caX S bf en) S.CL (S.FC S.P) (S.NLp S.P) := by rw [← hS]; rfl
  have m1 := I.frm (i := p + 1) (k := S.P) (by omega) (Nat.le_refl _)
  have m2 := I.fcm (i := p + 1) (k := S.P) (by omega) (Nat.le_refl _)
  have m3 := I.fdm (i := p + 1) (k := S.P) (by omega) (Nat.le_refl _)
  have l1 := I.le1 hp
  have l2 := h.fc
  have l3 := h.fd
  have kc : chain S.f (S.FR (p + 1)) (S.st p + 2) (S.nT p) := h.kept.2.2.2.2.1
  have hg : ∀ i, i < S.FR (p + 1) → S.f i = S₇.f i := fun i z => by rw [eP]; exact C.agr i (by omega)
  have en1 : S₇.nd p = S.nd p := by
    unfold Stk.nd
    rw [eF p (by omega)]
    exact (tw_cg hg (by omega)).symm
  have est : S₇.st p = S.st p := by
    unfold Stk.st
    rw [en1, eF p (by omega)]
  have eT : S₇.nT p = S.nT p := by
    unfold Stk.nT
    rw [est]
    exact (tw_cg hg (by unfold Stk.st; omega)).symm
  have edp : ∀ k, k < S.nd p → S.dp p k = S₇.dp p k := fun k z => by
    unfold Stk.dp
    rw [eD p (by omega), ← hS]
    exact (if_pos (by omega : S.FD p + k < S.FD S.P)).symm
  have eA1 : ∀ x, x < S.FC S.P → S.CA x = S₇.CA x := fun x z => by rw [eA]; exact (caX_lt z).symm
  have AG : ∀ j, j ≤ S.nT p → Agr S.f S₇.f (S.dp p) (S₇.dp p) S.FC S₇.FC S.CA S₇.CA S.CF S₇.CF S.CL S₇.CL (S.FR (p + 1)) p (S.nd p) (S.FC p + j) := fun j hj => ⟨hg, edp, (fun i z => (h.dep i z).1), (fun i z => (eC i (by omega)).symm), (fun i z => eA1 i (by omega)), (fun i z => by rw [eCF]; exact (C.cf i (by omega)).symm), (fun i z => by rw [eCL]; exact (clX_lt (by omega)).symm), (fun i z => I.chw (k := p + 1) (by omega) (by omega)), (fun i z => Nat.le_trans (I.fcm (i := i + 1) (k := p) (by omega) (by omega)) (by omega))⟩
  have CH : ∀ j, j < S.nT p → S.CA (S.FC p + j) = S₇.CA (S.FC p + j) ∧ chR S.f (S.FR (p + 1)) (S.CA (S.FC p + j)) (sS S.f (S.FR (p + 1)) (S.st p + 2) (j + 1)) ∧ S.f (S.CA (S.FC p + j)) = S₇.f (S.CA (S.FC p + j)) ∧ (S.f (S.CA (S.FC p + j)) = 2 → tw S.f (lnAt S.f (S.CA (S.FC p + j))) = tw S₇.f (lnAt S₇.f (S.CA (S.FC p + j)))) := fun j hj => by
    have c := I.chg hp hj
    have w := c.W
    refine ⟨eA1 _ (by omega), c, hg _ (by have := w.1; omega), fun e => ?_⟩
    obtain ⟨w1, w2, w3, w4⟩ := w.2.2.1 e
    rw [← lnAt_cg hg w.1 w2]
    exact tw_cg hg w4
  have eNF : ∀ j, j ≤ S.nT p → NFs S.f S.CA (S.FC p) (S.NFp p) j = NFs S₇.f S₇.CA (S₇.FC p) (S₇.NFp p) j := fun j hj => by
    rw [eC p (by omega), eN p (by omega)]
    exact NFs_cg (fun i z => ⟨(CH i (by omega)).1, (CH i (by omega)).2.2.1⟩)
  have eNL : ∀ j, j ≤ S.nT p → NLs S.f S.CA (S.FC p) (S.NLp p) j = NLs S₇.f S₇.CA (S₇.FC p) (S₇.NLp p) j := fun j hj => by
    rw [eC p (by omega), eL p (by omega)]
    exact NLs_cg (fun i z => ⟨(CH i (by omega)).1, (CH i (by omega)).2.2⟩)
  refine ⟨?_, ?_, ?_, ?_, ?_, ?_, ?_, ?_, ?_, ?_, ?_, ?_, ?_, ?_, ?_⟩
  · rw [eF p (by omega), eF (p + 1) (by omega)]; exact h.kept.cg hg
  · rw [eD p (by omega), eD (p + 1) (by omega), en1]; exact l3
  · rw [eC p (by omega), eC (p + 1) (by omega), eT]; exact l2
  · intro j hj
    rw [eT] at hj
    rw [eC p (by omega), eF (p + 1) (by omega), est, ← (CH j hj).1, ← sS_cg hg kc j (by omega)]
    exact h.ca j hj
  · intro k hk
    rw [en1] at hk
    obtain ⟨d1, d2⟩ := h.dep k hk
    rw [← edp k hk, eF p (by omega)]
    refine ⟨d1, ?_⟩
    rw [← sq_congr (f := S.f) (g := S₇.f) 32 (S.FR p + 2 + k * 32) (S.FR p + 2 + k * 32) (fun i z => hg _ (by omega)), ← d2]
    rw [← hS]
    exact sq_congr 32 _ _ (fun i z => M.hf _ (by omega))
  · intro j hj
    rw [eT] at hj
    have r := (AG j (by omega)).rs (CH j hj).2.1.W (Nat.le_trans (I.ndl hp) (by have := I.hP; omega)) (h.rs j hj)
    rw [← eNF j (by omega), eC p (by omega), en1, ← (CH j hj).1, show S₇.CF (S.FC p + j) = S.CF (S.FC p + j) by rw [eCF]; exact C.cf _ (by omega)]
    exact r
  · intro j hj
    rw [eT] at hj
    rw [← eNL j (by omega), eC p (by omega), eCL, clX_lt (by omega)]
    exact h.cl j hj
  · rw [eN (p + 1) (by omega), eT, ← eNF _ (Nat.le_refl _)]; exact h.nf
  · rw [eL (p + 1) (by omega), eT, ← eNL _ (Nat.le_refl _)]; exact h.nl
  · rw [eO (p + 1) (by omega), eO p (by omega), eT, eC p (by omega), h.lo]
    exact lcs_cg (fun i z => ⟨(CH i z).1, by rw [eCF]; exact (C.cf _ (by omega)).symm, (CH i z).2.2⟩)
  · intro j hj e
    rw [eT] at hj
    rw [eC p (by omega), ← (CH j hj).1] at e
    rw [eC p (by omega), en1, ← (CH j hj).1, show S₇.CL (S.FC p + j) = S.CL (S.FC p + j) by rw [eCL]; exact clX_lt (by omega)]
    rw [← (CH j hj).2.2.1] at e
    have r := (h.li j hj e).cg (AG j (by omega)) e (CH j hj).2.1
    rw [← hS] at r ⊢
    refine r.same M.lis ?_
    have q1 := I.nlm (i := p + 1) (k := S.P) (by omega) (Nat.le_refl _)
    have q2 := NLs_mono S.f S.CA (S.FC p) (S.NLp p) (i := j + 1) (j := S.nT p) (by omega)
    rw [NLs_eq e, ← h.nl, ← h.cl j hj, (CH j hj).2.2.2 e, ← hS] at q2
    exact Nat.le_trans q2 q1
  · intro j hj e
    rw [eT] at hj
    rw [eC p (by omega), ← (CH j hj).1, ← (CH j hj).2.2.1] at e
    rw [← eNF j (by omega), eC p (by omega)]
    have q1 := I.nfm (i := p + 1) (k := S.P) (by omega) (Nat.le_refl _)
    have q2 := NFs_mono S.f S.CA (S.FC p) (S.NFp p) (i := j + 1) (j := S.nT p) (by omega)
    rw [NFs_eq e, ← h.nf] at q2
    rw [← hS]
    exact (M.ads _ (by omega)).trans (h.ad j hj e)
  · intro k hk
    rw [en1] at hk
    rw [en1, eT, eC p (by omega), ← nmXs_cg hg (fun i z => ⟨(CH i z).1, (CH i z).2.1.W, (CH i z).2.1.kd⟩)]
    exact h.nm k hk
  · intro k hk
    rw [eF p (by omega), eF (p + 1) (by omega)]
    have : S₇.hf (p * 32 + k) = S.hf (p * 32 + k) := by rw [← hS]; exact M.hf _ (by omega)
    rw [this, h.hs k hk]
    exact sh_outb_congr (dg_congr (fun i z => hg _ (by omega))) hk
  · intro n hn
    have q : ∀ r, r < S.P → btr S₇.lo (r * 8) n = btr S.lo (r * 8) n := fun r z => by
      rw [← hS]
      unfold btr
      rw [show (S.ext bf en DPn CF1 BH1 nd T hf1 lo1 lb1 la ll lc lp lu ld ad).lo = lo1 from rfl, M.ln.1 _ (Or.inl (by omega))]
    rw [q p hp, h.ln n hn, en1]
    constructor
    · rintro ⟨k, z1, z2⟩
      have z3 := (h.dep k z1).1
      refine ⟨k, z1, ?_⟩
      rw [← edp k z1, q _ (by omega)]
      exact z2
    · rintro ⟨k, z1, z2⟩
      have z3 := (h.dep k z1).1
      refine ⟨k, z1, ?_⟩
      rw [← edp k z1, q _ (by omega)] at z2
      exact z2
end
end
section
/-! 80.new.lean.txt -/
theorem chW_cg {f g : Nat → Int32} {n a : Nat} (hg : ∀ i, i < n → f i = g i) (hw : chW f n a) : chW g n a := by
  obtain ⟨h1, h2, h3, h4, h5⟩ := hw
  have ea := hg a (by omega)
  have e5 := hg (a + 5) h1
  refine ⟨h1, fun z => ?_, fun z => ?_, fun z => h4 (ea.trans z), fun z => h5 (ea.trans z)⟩
  · rw [← e5]; exact h2 (ea.trans z)
  · obtain ⟨w1, w2, w3, w4⟩ := h3 (ea.trans z)
    have e6 := plEnd_cg hg h1
    rw [← e5, ← e6, ← hg _ w2, ← lnAt_cg hg h1 w2]
    exact ⟨w1, w2, w3, w4⟩
theorem sInv.lln {S : Stk} (I : sInv S) (n : Nat) (hn : n < 512) : ∀ p, p < S.P → btr S.lo (p * 8) n = true → n < p := by
  intro p
  induction p using Nat.strongRecOn with
  | _ p ih =>
    intro hp h
    obtain ⟨k, z1, z2⟩ := ((I.pi p hp).ln n hn).mp h
    have z3 := ((I.pi p hp).dep k z1).1
    rcases z2 with z2 | z2
    · omega
    · have := ih _ z3 (by omega) z2
      omega
section
variable {S : Stk} {bf : Nat → Int32} {en : Nat} {DPn CF1 BH1 : Nat → Nat} {nd T : Nat} {hf1 : Nat → Int32} {lo1 lb1 : Nat → Int64} {la ll lc lp lu ld ad : Nat → Int32}
theorem cand.len (C : cand S bf en DPn CF1 nd T) : S.FR S.P + 4 + nd * 32 + 7 * T ≤ en := by
  have h := C.kept.len
  rw [C.hT, C.hnd]
  exact h
theorem cand.chg (C : cand S bf en DPn CF1 nd T) {j : Nat} (hj : j < T) : chR bf en (caX S bf en (S.FC S.P + j)) (sS bf en (S.FR S.P + 2 + tw bf (S.FR S.P) * 32 + 2) (j + 1)) := by
  rw [caX_ge]
  exact (C.kept.2.2.2.2.1 j (by rw [C.hT, C.hnd] at hj; exact hj)).2
theorem cand.chw (I : sInv S) (C : cand S bf en DPn CF1 nd T) {x : Nat} (hx : x < S.FC S.P + T) : chW bf en (caX S bf en x) := by
  by_cases e : x < S.FC S.P
  · rw [caX_lt e]
    exact (chW_cg C.agr (I.chw (Nat.le_refl _) e)).mono (by have := C.len; omega)
  · obtain ⟨j, rfl⟩ : ∃ j, x = S.FC S.P + j := ⟨x - S.FC S.P, by omega⟩
    exact (C.chg (by omega)).W
theorem cand.ndl (C : cand S bf en DPn CF1 nd T) : nd ≤ S.P := by
  refine pigeon S.P nd DPn (fun k z => (C.dep k z).1) (fun i k hi hk e => ?_)
  have e1 := (C.dep i hi).2
  have e2 := (C.dep k hk).2
  rw [e] at e1
  have e3 := e1.symm.trans e2
  have hr := C.kept.2.2.1
  rw [← C.hnd] at hr
  rcases Nat.lt_trichotomy i k with z | z | z
  · exact absurd e3 (rising.ne hr z hk)
  · exact z
  · exact absurd e3.symm (rising.ne hr z hi)
/-- the candidate becomes a patch -/
theorem sInv.new (I : sInv S) (C : cand S bf en DPn CF1 nd T) (M : more S bf en DPn CF1 BH1 nd T hf1 lo1 lb1 la ll lc lp lu ld ad) : pInv (S.ext bf en DPn CF1 BH1 nd T hf1 lo1 lb1 la ll lc lp lu ld ad) S.P := by
  generalize hS : S.ext bf en DPn CF1 BH1 nd T hf1 lo1 lb1 la ll lc lp lu ld ad = S₇
  have eP : S₇.f = bf := by rw [← hS]; rfl
  have eF : S₇.FR S.P = S.FR S.P := by rw [← hS]; exact upN_ne _ (by omega)
  have eF1 : S₇.FR (S.P + 1) = en := by rw [← hS]; exact upN_eq _ _ _
  have eD : S₇.FD S.P = S.FD S.P := by rw [← hS]; exact upN_ne _ (by omega)
  have eD1 : S₇.FD (S.P + 1) = S.FD S.P + nd := by rw [← hS]; exact upN_eq _ _ _
  have eC : ∀ i, i ≤ S.P → S₇.FC i = S.FC i := fun i z => by rw [← hS]; exact upN_ne _ (by omega)
  have eC1 : S₇.FC (S.P + 1) = S.FC S.P + T := by rw [← hS]; exact upN_eq _ _ _
  have eN : S₇.NFp S.P = S.NFp S.P := by rw [← hS]; exact upN_ne _ (by omega)
  have eL : S₇.NLp S.P = S.NLp S.P := by rw [← hS]; exact upN_ne _ (by omega)
  have eA : S₇.CA = caX S bf en := by rw [← hS]; rfl
  have eCF : S₇.CF = CF1 := by rw [← hS]; rfl
  have eCL : S₇.CL = clX bf (caX S bf en) S.CL (S.FC S.P) (S.NLp S.P) := by rw [← hS]; rfl
  have eh : S₇.hf = hf1 := by rw [← hS]; rfl
  have eo : S₇.lo = lo1 := by rw [← hS]; rfl
  have en1 : S₇.nd S.P = nd := by
    unfold Stk.nd
    rw [eF, eP, C.hnd]
  have est : S₇.st S.P = S.FR S.P + 2 + nd * 32 := by
    unfold Stk.st
    rw [en1, eF]
  have eT : S₇.nT S.P = T := by
    unfold Stk.nT
    rw [est, eP, C.hT]
  have edp : S₇.dp S.P = DPn := by
    funext k
    unfold Stk.dp
    rw [eD, ← hS]
    show (if S.FD S.P + k < S.FD S.P then S.DP (S.FD S.P + k) else DPn (S.FD S.P + k - S.FD S.P)) = DPn k
    rw [if_neg (by omega), Nat.add_sub_cancel_left]
  have hnd5 : nd ≤ 2048 := Nat.le_trans C.ndl (by have := I.hP; omega)
  have AG : ∀ j, j ≤ T → Agr bf bf DPn DPn S.FC S₇.FC (caX S bf en) (caX S bf en) CF1 CF1 (clX bf (caX S bf en) S.CL (S.FC S.P) (S.NLp S.P)) (clX bf (caX S bf en) S.CL (S.FC S.P) (S.NLp S.P)) en S.P nd (S.FC S.P + j) := fun j hj => ⟨(fun _ _ => rfl), (fun _ _ => rfl), (fun i z => (C.dep i z).1), (fun i z => (eC i z).symm), (fun _ _ => rfl), (fun _ _ => rfl), (fun _ _ => rfl), (fun i z => C.chw I (by omega)), (fun i z => Nat.le_trans (I.fcm (i := i + 1) (k := S.P) (by omega) (Nat.le_refl _)) (by omega))⟩
  refine ⟨?_, ?_, ?_, ?_, ?_, ?_, ?_, ?_, ?_, ?_, ?_, ?_, ?_, ?_, ?_⟩
  · rw [eP, eF, eF1]; exact C.kept
  · rw [eD1, eD, en1]
  · rw [eC1, eC _ (Nat.le_refl _), eT]
  · intro j hj
    rw [eA, eC _ (Nat.le_refl _), caX_ge, eP, eF1, est, C.hnd]
  · intro k hk
    rw [en1] at hk
    obtain ⟨d1, d2⟩ := C.dep k hk
    rw [edp, eh, eP, eF, ← d2]
    exact ⟨d1, sq_congr 32 _ _ (fun i z => M.hf _ (by omega))⟩
  · rw [eP, edp, eA, eCF, eCL, en1, eC _ (Nat.le_refl _), eN, eT]
    intro j hj
    exact (AG j (by omega)).rs (C.chg hj).W hnd5 (C.rs j hj)
  · intro j hj
    rw [eCL, eC _ (Nat.le_refl _), clX_at, eP, eA, eL]
  · rw [eP, eA, eC _ (Nat.le_refl _), eN, eT, ← hS]; exact upN_eq _ _ _
  · rw [eP, eA, eC _ (Nat.le_refl _), eL, eT, ← hS]; exact upN_eq _ _ _
  · rw [eP, eA, eCF, eC _ (Nat.le_refl _), eT, ← hS]
    show (if S.P + 1 = S.P + 1 then _ else _) = lcs bf (caX S bf en) CF1 (S.FC S.P) T (if S.P = S.P + 1 then _ else _)
    rw [if_pos rfl, if_neg (by omega)]
  · intro j hj e
    rw [eT] at hj
    rw [eP, eA, eC _ (Nat.le_refl _)] at e
    rw [eP, edp, eCL, en1, eA, eC _ (Nat.le_refl _), clX_at]
    have r := (M.li j hj e).cg (AG j (by omega)) e (C.chg hj)
    rw [← hS] at r ⊢
    exact r
  · intro j hj e
    rw [eT] at hj
    rw [eP, eA, eC _ (Nat.le_refl _)] at e
    rw [eP, eA, eC _ (Nat.le_refl _), eN, ← hS]
    exact M.gad j hj e
  · intro k hk
    rw [en1] at hk
    rw [eP, en1, eA, eC _ (Nat.le_refl _), eT]
    exact C.nm k hk
  · intro k hk
    rw [eh, eP, eF, eF1]
    exact M.hs k hk
  · intro n hn
    rw [eo, en1, edp, M.ln.2 n hn]
    have z0 : btr S.lo (S.P * 8) n = false := by
      unfold btr
      rw [I.lz _ (by omega) (by have := M.hP; omega)]
      show (0 : BitVec 64).getLsbD _ = false
      simp
    have q : ∀ k, k < nd → btr lo1 (DPn k * 8) n = btr S.lo (DPn k * 8) n := fun k z => by
      have := (C.dep k z).1
      unfold btr
      rw [M.ln.1 _ (Or.inl (by omega))]
    constructor
    · rintro (a | ⟨k, a, b⟩)
      · rw [z0] at a; cases a
      · exact ⟨k, a, by rw [q k a]; exact b⟩
    · rintro ⟨k, a, b⟩
      rw [q k a] at b
      exact Or.inr ⟨k, a, b⟩
/-- the stock with the candidate is a stock -/
theorem sInv.ext (I : sInv S) (C : cand S bf en DPn CF1 nd T) (M : more S bf en DPn CF1 BH1 nd T hf1 lo1 lb1 la ll lc lp lu ld ad) : sInv (S.ext bf en DPn CF1 BH1 nd T hf1 lo1 lb1 la ll lc lp lu ld ad) := by
  have hP := M.hP
  have lo_eq : ∀ q n, q < S.P → n < 512 → btr lo1 (q * 8) n = btr S.lo (q * 8) n := fun q n z z2 => by
    unfold btr
    rw [M.ln.1 _ (Or.inl (by omega))]
  refine ⟨(by show S.P + 1 ≤ 500; omega), ((by show upN S.FR (S.P + 1) en 0 = 0; rw [upN_ne _ (by omega)]; exact I.fr0)), ((by show upN S.FD (S.P + 1) (S.FD S.P + nd) 0 = 0; rw [upN_ne _ (by omega)]; exact I.fd0)), ((by show upN S.FC (S.P + 1) (S.FC S.P + T) 0 = 0; rw [upN_ne _ (by omega)]; exact I.fc0)), ((by show upN S.NFp (S.P + 1) (NFs bf (caX S bf en) (S.FC S.P) (S.NFp S.P) T) 0 = 0; rw [upN_ne _ (by omega)]; exact I.nf0)), ((by show upN S.NLp (S.P + 1) (NLs bf (caX S bf en) (S.FC S.P) (S.NLp S.P) T) 0 = 0; rw [upN_ne _ (by omega)]; exact I.nl0)), (fun y => ?_), (fun p hp => ?_), (?_), (?_), (?_), (fun y => ?_), (M.bh), (M.up), (M.sur), (fun k h1 h2 => ?_), (fun q n hq hn => ?_)⟩
  · show (if 0 = S.P + 1 then lcs bf (caX S bf en) CF1 (S.FC S.P) T (S.LOp S.P) else S.LOp 0) y = 0
    rw [if_neg (by omega)]; exact I.lo0 y
  · have hp : p < S.P + 1 := hp
    by_cases e : p = S.P
    · subst e; exact I.new C M
    · exact I.old C M (by omega)
  · show upN S.FR (S.P + 1) en (S.P + 1) ≤ _
    rw [upN_eq]; exact M.hen
  · show upN S.NFp (S.P + 1) (NFs bf (caX S bf en) (S.FC S.P) (S.NFp S.P) T) (S.P + 1) ≤ _
    rw [upN_eq]; exact M.nf
  · show upN S.NLp (S.P + 1) (NLs bf (caX S bf en) (S.FC S.P) (S.NLp S.P) T) (S.P + 1) ≤ _
    rw [upN_eq]; exact M.nl
  · show (if S.P + 1 = S.P + 1 then lcs bf (caX S bf en) CF1 (S.FC S.P) T (S.LOp S.P) else S.LOp (S.P + 1)) y ≤ 400
    rw [if_pos rfl]; exact M.lo y
  · have h1 : (S.P + 1) * 8 ≤ k := h1
    show lo1 k = 0
    rw [M.ln.1 k (Or.inr (by omega))]
    exact I.lz k (by omega) h2
  · show btr lb1 (q * 8) n = (decide (n < S.P + 1) && btr lo1 (n * 8) q)
    rw [M.lb, lbX_bit hP hn, I.lbz q n hq hn]
    have h0 : btr lo1 (S.P * 8) q = true → q < S.P := fun z => by
      rcases (M.ln.2 q (by omega)).mp z with a | ⟨k, a, b⟩
      · have : btr S.lo (S.P * 8) q = false := by
          unfold btr
          rw [I.lz _ (by omega) (by omega)]
          show (0 : BitVec 64).getLsbD _ = false
          simp
        rw [this] at a; cases a
      · have d := (C.dep k a).1
        rcases b with b | b
        · omega
        · have := I.lln q (by omega) _ d b
          omega
    rcases Nat.lt_trichotomy n S.P with z | z | z
    · rw [lo_eq n q z (by omega)]
      have : ¬ n = S.P := by omega
      simp [z, this, show n < S.P + 1 by omega]
    · subst z
      cases hb : btr lo1 (S.P * 8) q with
      | false => simp
      | true => simp [h0 hb]
    · have z1 : ¬ n < S.P := by omega
      have z2 : ¬ n = S.P := by omega
      have z3 : ¬ n < S.P + 1 := by omega
      simp [z1, z2, z3]
end
end
section
/-! 81.rep.lean.txt -/
/-- what the arrays of the stock and of the intake hold -/
def StkA : Type := (Nat → Int32) × (Nat → Int32) × (Nat → Int32) × (Nat → Int32) × (Nat → Int32) × (Nat → Int32) × (Nat → Int32) × (Nat → Int64) × (Nat → Int64) × (Nat → Int32) × (Nat → Int32) × (Nat → Int32) × (Nat → Int32) × (Nat → Int32) × (Nat → Int32) × (Nat → Int32) × (Nat → Int32) × (Nat → Int32) × (Nat → Int32) × (Nat → Int32) × (Nat → Int32) × (Nat → Int32) × (Nat → Int32) × (Nat → Int32) × (Nat → Int32) × (Nat → Int32) × Value × Value × Value × Value × Nat × Nat × Nat
def StkA.by₇ (s9 : StkA) : Nat → Int32 := s9.1
def StkA.fr (s9 : StkA) : Nat → Int32 := s9.2.1
def StkA.fd (s9 : StkA) : Nat → Int32 := s9.2.2.1
def StkA.fc (s9 : StkA) : Nat → Int32 := s9.2.2.2.1
def StkA.dp (s9 : StkA) : Nat → Int32 := s9.2.2.2.2.1
def StkA.hs (s9 : StkA) : Nat → Int32 := s9.2.2.2.2.2.1
def StkA.bh (s9 : StkA) : Nat → Int32 := s9.2.2.2.2.2.2.1
def StkA.lo (s9 : StkA) : Nat → Int64 := s9.2.2.2.2.2.2.2.1
def StkA.lb (s9 : StkA) : Nat → Int64 := s9.2.2.2.2.2.2.2.2.1
def StkA.ca (s9 : StkA) : Nat → Int32 := s9.2.2.2.2.2.2.2.2.2.1
def StkA.cp (s9 : StkA) : Nat → Int32 := s9.2.2.2.2.2.2.2.2.2.2.1
def StkA.cf (s9 : StkA) : Nat → Int32 := s9.2.2.2.2.2.2.2.2.2.2.2.1
def StkA.fl (s9 : StkA) : Nat → Int32 := s9.2.2.2.2.2.2.2.2.2.2.2.2.1
def StkA.ad (s9 : StkA) : Nat → Int32 := s9.2.2.2.2.2.2.2.2.2.2.2.2.2.1
def StkA.la (s9 : StkA) : Nat → Int32 := s9.2.2.2.2.2.2.2.2.2.2.2.2.2.2.1
def StkA.ll (s9 : StkA) : Nat → Int32 := s9.2.2.2.2.2.2.2.2.2.2.2.2.2.2.2.1
def StkA.lc (s9 : StkA) : Nat → Int32 := s9.2.2.2.2.2.2.2.2.2.2.2.2.2.2.2.2.1
def StkA.lp (s9 : StkA) : Nat → Int32 := s9.2.2.2.2.2.2.2.2.2.2.2.2.2.2.2.2.2.1
def StkA.lu (s9 : StkA) : Nat → Int32 := s9.2.2.2.2.2.2.2.2.2.2.2.2.2.2.2.2.2.2.1
def StkA.ld (s9 : StkA) : Nat → Int32 := s9.2.2.2.2.2.2.2.2.2.2.2.2.2.2.2.2.2.2.2.1
def StkA.of (s9 : StkA) : Nat → Int32 := s9.2.2.2.2.2.2.2.2.2.2.2.2.2.2.2.2.2.2.2.2.1
def StkA.na (s9 : StkA) : Nat → Int32 := s9.2.2.2.2.2.2.2.2.2.2.2.2.2.2.2.2.2.2.2.2.2.1
def StkA.lf (s9 : StkA) : Nat → Int32 := s9.2.2.2.2.2.2.2.2.2.2.2.2.2.2.2.2.2.2.2.2.2.2.1
def StkA.sm (s9 : StkA) : Nat → Int32 := s9.2.2.2.2.2.2.2.2.2.2.2.2.2.2.2.2.2.2.2.2.2.2.2.1
def StkA.wd (s9 : StkA) : Nat → Int32 := s9.2.2.2.2.2.2.2.2.2.2.2.2.2.2.2.2.2.2.2.2.2.2.2.2.1
def StkA.bl (s9 : StkA) : Nat → Int32 := s9.2.2.2.2.2.2.2.2.2.2.2.2.2.2.2.2.2.2.2.2.2.2.2.2.2.1
def StkA.nf (s9 : StkA) : Value := s9.2.2.2.2.2.2.2.2.2.2.2.2.2.2.2.2.2.2.2.2.2.2.2.2.2.2.1
def StkA.nl (s9 : StkA) : Value := s9.2.2.2.2.2.2.2.2.2.2.2.2.2.2.2.2.2.2.2.2.2.2.2.2.2.2.2.1
def StkA.fi (s9 : StkA) : Value := s9.2.2.2.2.2.2.2.2.2.2.2.2.2.2.2.2.2.2.2.2.2.2.2.2.2.2.2.2.1
def StkA.tk (s9 : StkA) : Value := s9.2.2.2.2.2.2.2.2.2.2.2.2.2.2.2.2.2.2.2.2.2.2.2.2.2.2.2.2.2.1
def StkA.pt (s9 : StkA) : Nat := s9.2.2.2.2.2.2.2.2.2.2.2.2.2.2.2.2.2.2.2.2.2.2.2.2.2.2.2.2.2.2.1
def StkA.nL (s9 : StkA) : Nat := s9.2.2.2.2.2.2.2.2.2.2.2.2.2.2.2.2.2.2.2.2.2.2.2.2.2.2.2.2.2.2.2.1
def StkA.nF (s9 : StkA) : Nat := s9.2.2.2.2.2.2.2.2.2.2.2.2.2.2.2.2.2.2.2.2.2.2.2.2.2.2.2.2.2.2.2.2
def StkA.mk (by₇ : Nat → Int32) (fr : Nat → Int32) (fd : Nat → Int32) (fc : Nat → Int32) (dp : Nat → Int32) (hs : Nat → Int32) (bh : Nat → Int32) (lo : Nat → Int64) (lb : Nat → Int64) (ca : Nat → Int32) (cp : Nat → Int32) (cf : Nat → Int32) (fl : Nat → Int32) (ad : Nat → Int32) (la : Nat → Int32) (ll : Nat → Int32) (lc : Nat → Int32) (lp : Nat → Int32) (lu : Nat → Int32) (ld : Nat → Int32) (of : Nat → Int32) (na : Nat → Int32) (lf : Nat → Int32) (sm : Nat → Int32) (wd : Nat → Int32) (bl : Nat → Int32) (nf : Value) (nl : Value) (fi : Value) (tk : Value) (pt : Nat) (nL : Nat) (nF : Nat) : StkA := (by₇, fr, fd, fc, dp, hs, bh, lo, lb, ca, cp, cf, fl, ad, la, ll, lc, lp, lu, ld, of, na, lf, sm, wd, bl, nf, nl, fi, tk, pt, nL, nF)
/-- the arrays hold the stock -/
def rep (S : Stk) (Z : StkA) : Prop := (∀ i, i ≤ S.P → Z.fr i = nI (S.FR i)) ∧ (∀ i, i ≤ S.P → Z.fd i = nI (S.FD i)) ∧ (∀ i, i ≤ S.P → Z.fc i = nI (S.FC i)) ∧ (∀ i, i < S.FD S.P → Z.dp i = nI (S.DP i)) ∧ (∀ i, i < S.FC S.P → Z.ca i = nI (S.CA i)) ∧ (∀ i, i < S.FC S.P → Z.cf i = nI (S.CF i)) ∧ (∀ i, i < S.FC S.P → S.f (S.CA i) = 2 → Z.fl i = nI (S.CL i)) ∧ (∀ p j, p < S.P → j < S.nT p → Z.cp (S.FC p + j) = nI p) ∧ (∀ i, i < S.P * 32 → Z.hs i = S.hf i) ∧ (∀ i, i < S.P → Z.bh i = nI (S.BH i)) ∧ (Z.lo = S.lo) ∧ (Z.lb = S.lb) ∧ (Z.la = S.la) ∧ (Z.ll = S.ll) ∧ (Z.lc = S.lc) ∧ (Z.lp = S.lp) ∧ (Z.lu = S.lu) ∧ (Z.ld = S.ld) ∧ (Z.ad = S.ad) ∧ (∀ y, y < 200 → Z.of y = nI (S.LOp S.P y)) ∧ (∀ i, i < S.FR S.P → S.f i = Z.by₇ i) ∧ (Z.pt = S.P) ∧ (Z.nL = S.NLp S.P) ∧ (Z.nF = S.NFp S.P)
theorem rep.fr {S : Stk} {Z : StkA} (h9 : rep S Z) : ∀ i, i ≤ S.P → Z.fr i = nI (S.FR i) := h9.1
theorem rep.fd {S : Stk} {Z : StkA} (h9 : rep S Z) : ∀ i, i ≤ S.P → Z.fd i = nI (S.FD i) := h9.2.1
theorem rep.fc {S : Stk} {Z : StkA} (h9 : rep S Z) : ∀ i, i ≤ S.P → Z.fc i = nI (S.FC i) := h9.2.2.1
theorem rep.dp {S : Stk} {Z : StkA} (h9 : rep S Z) : ∀ i, i < S.FD S.P → Z.dp i = nI (S.DP i) := h9.2.2.2.1
theorem rep.ca {S : Stk} {Z : StkA} (h9 : rep S Z) : ∀ i, i < S.FC S.P → Z.ca i = nI (S.CA i) := h9.2.2.2.2.1
theorem rep.cf {S : Stk} {Z : StkA} (h9 : rep S Z) : ∀ i, i < S.FC S.P → Z.cf i = nI (S.CF i) := h9.2.2.2.2.2.1
theorem rep.fl {S : Stk} {Z : StkA} (h9 : rep S Z) : ∀ i, i < S.FC S.P → S.f (S.CA i) = 2 → Z.fl i = nI (S.CL i) := h9.2.2.2.2.2.2.1
theorem rep.cp {S : Stk} {Z : StkA} (h9 : rep S Z) : ∀ p j, p < S.P → j < S.nT p → Z.cp (S.FC p + j) = nI p := h9.2.2.2.2.2.2.2.1
theorem rep.hs {S : Stk} {Z : StkA} (h9 : rep S Z) : ∀ i, i < S.P * 32 → Z.hs i = S.hf i := h9.2.2.2.2.2.2.2.2.1
theorem rep.bh {S : Stk} {Z : StkA} (h9 : rep S Z) : ∀ i, i < S.P → Z.bh i = nI (S.BH i) := h9.2.2.2.2.2.2.2.2.2.1
theorem rep.lo {S : Stk} {Z : StkA} (h9 : rep S Z) : Z.lo = S.lo := h9.2.2.2.2.2.2.2.2.2.2.1
theorem rep.lb {S : Stk} {Z : StkA} (h9 : rep S Z) : Z.lb = S.lb := h9.2.2.2.2.2.2.2.2.2.2.2.1
theorem rep.la {S : Stk} {Z : StkA} (h9 : rep S Z) : Z.la = S.la := h9.2.2.2.2.2.2.2.2.2.2.2.2.1
theorem rep.ll {S : Stk} {Z : StkA} (h9 : rep S Z) : Z.ll = S.ll := h9.2.2.2.2.2.2.2.2.2.2.2.2.2.1
theorem rep.lc {S : Stk} {Z : StkA} (h9 : rep S Z) : Z.lc = S.lc := h9.2.2.2.2.2.2.2.2.2.2.2.2.2.2.1
theorem rep.lp {S : Stk} {Z : StkA} (h9 : rep S Z) : Z.lp = S.lp := h9.2.2.2.2.2.2.2.2.2.2.2.2.2.2.2.1
theorem rep.lu {S : Stk} {Z : StkA} (h9 : rep S Z) : Z.lu = S.lu := h9.2.2.2.2.2.2.2.2.2.2.2.2.2.2.2.2.1
theorem rep.ld {S : Stk} {Z : StkA} (h9 : rep S Z) : Z.ld = S.ld := h9.2.2.2.2.2.2.2.2.2.2.2.2.2.2.2.2.2.1
theorem rep.ad {S : Stk} {Z : StkA} (h9 : rep S Z) : Z.ad = S.ad := h9.2.2.2.2.2.2.2.2.2.2.2.2.2.2.2.2.2.2.1
theorem rep.of {S : Stk} {Z : StkA} (h9 : rep S Z) : ∀ y, y < 200 → Z.of y = nI (S.LOp S.P y) := h9.2.2.2.2.2.2.2.2.2.2.2.2.2.2.2.2.2.2.2.1
theorem rep.byt {S : Stk} {Z : StkA} (h9 : rep S Z) : ∀ i, i < S.FR S.P → S.f i = Z.by₇ i := h9.2.2.2.2.2.2.2.2.2.2.2.2.2.2.2.2.2.2.2.2.1
theorem rep.pt {S : Stk} {Z : StkA} (h9 : rep S Z) : Z.pt = S.P := h9.2.2.2.2.2.2.2.2.2.2.2.2.2.2.2.2.2.2.2.2.2.1
theorem rep.nL {S : Stk} {Z : StkA} (h9 : rep S Z) : Z.nL = S.NLp S.P := h9.2.2.2.2.2.2.2.2.2.2.2.2.2.2.2.2.2.2.2.2.2.2.1
theorem rep.nF {S : Stk} {Z : StkA} (h9 : rep S Z) : Z.nF = S.NFp S.P := h9.2.2.2.2.2.2.2.2.2.2.2.2.2.2.2.2.2.2.2.2.2.2.2
/-- Z1 differs from Z behind what the stock holds alone -/
def same (S : Stk) (Z Z1 : StkA) : Prop := (∀ i, i ≤ S.P → Z1.fr i = Z.fr i) ∧ (∀ i, i ≤ S.P → Z1.fd i = Z.fd i) ∧ (∀ i, i ≤ S.P → Z1.fc i = Z.fc i) ∧ (∀ i, i < S.FD S.P → Z1.dp i = Z.dp i) ∧ (∀ i, i < S.FC S.P → Z1.ca i = Z.ca i) ∧ (∀ i, i < S.FC S.P → Z1.cf i = Z.cf i ∧ Z1.fl i = Z.fl i ∧ Z1.cp i = Z.cp i) ∧ (∀ i, i < S.P * 32 → Z1.hs i = Z.hs i) ∧ (Z1.bh = Z.bh) ∧ (Z1.lo = Z.lo) ∧ (Z1.lb = Z.lb) ∧ (Z1.la = Z.la) ∧ (Z1.ll = Z.ll) ∧ (Z1.lc = Z.lc) ∧ (Z1.lp = Z.lp) ∧ (Z1.lu = Z.lu) ∧ (Z1.ld = Z.ld) ∧ (Z1.ad = Z.ad) ∧ (Z1.of = Z.of) ∧ (Z1.by₇ = Z.by₇) ∧ (Z1.pt = Z.pt) ∧ (Z1.nL = Z.nL) ∧ (Z1.nF = Z.nF)
theorem same.fr {S : Stk} {Z Z1 : StkA} (h9 : same S Z Z1) : ∀ i, i ≤ S.P → Z1.fr i = Z.fr i := h9.1
theorem same.fd {S : Stk} {Z Z1 : StkA} (h9 : same S Z Z1) : ∀ i, i ≤ S.P → Z1.fd i = Z.fd i := h9.2.1
theorem same.fc {S : Stk} {Z Z1 : StkA} (h9 : same S Z Z1) : ∀ i, i ≤ S.P → Z1.fc i = Z.fc i := h9.2.2.1
theorem same.dp {S : Stk} {Z Z1 : StkA} (h9 : same S Z Z1) : ∀ i, i < S.FD S.P → Z1.dp i = Z.dp i := h9.2.2.2.1
theorem same.ca {S : Stk} {Z Z1 : StkA} (h9 : same S Z Z1) : ∀ i, i < S.FC S.P → Z1.ca i = Z.ca i := h9.2.2.2.2.1
theorem same.cc {S : Stk} {Z Z1 : StkA} (h9 : same S Z Z1) : ∀ i, i < S.FC S.P → Z1.cf i = Z.cf i ∧ Z1.fl i = Z.fl i ∧ Z1.cp i = Z.cp i := h9.2.2.2.2.2.1
theorem same.hs {S : Stk} {Z Z1 : StkA} (h9 : same S Z Z1) : ∀ i, i < S.P * 32 → Z1.hs i = Z.hs i := h9.2.2.2.2.2.2.1
theorem same.bh {S : Stk} {Z Z1 : StkA} (h9 : same S Z Z1) : Z1.bh = Z.bh := h9.2.2.2.2.2.2.2.1
theorem same.lo {S : Stk} {Z Z1 : StkA} (h9 : same S Z Z1) : Z1.lo = Z.lo := h9.2.2.2.2.2.2.2.2.1
theorem same.lb {S : Stk} {Z Z1 : StkA} (h9 : same S Z Z1) : Z1.lb = Z.lb := h9.2.2.2.2.2.2.2.2.2.1
theorem same.la {S : Stk} {Z Z1 : StkA} (h9 : same S Z Z1) : Z1.la = Z.la := h9.2.2.2.2.2.2.2.2.2.2.1
theorem same.ll {S : Stk} {Z Z1 : StkA} (h9 : same S Z Z1) : Z1.ll = Z.ll := h9.2.2.2.2.2.2.2.2.2.2.2.1
theorem same.lc {S : Stk} {Z Z1 : StkA} (h9 : same S Z Z1) : Z1.lc = Z.lc := h9.2.2.2.2.2.2.2.2.2.2.2.2.1
theorem same.lp {S : Stk} {Z Z1 : StkA} (h9 : same S Z Z1) : Z1.lp = Z.lp := h9.2.2.2.2.2.2.2.2.2.2.2.2.2.1
theorem same.lu {S : Stk} {Z Z1 : StkA} (h9 : same S Z Z1) : Z1.lu = Z.lu := h9.2.2.2.2.2.2.2.2.2.2.2.2.2.2.1
theorem same.ld {S : Stk} {Z Z1 : StkA} (h9 : same S Z Z1) : Z1.ld = Z.ld := h9.2.2.2.2.2.2.2.2.2.2.2.2.2.2.2.1
theorem same.ad {S : Stk} {Z Z1 : StkA} (h9 : same S Z Z1) : Z1.ad = Z.ad := h9.2.2.2.2.2.2.2.2.2.2.2.2.2.2.2.2.1
theorem same.of {S : Stk} {Z Z1 : StkA} (h9 : same S Z Z1) : Z1.of = Z.of := h9.2.2.2.2.2.2.2.2.2.2.2.2.2.2.2.2.2.1
theorem same.byt {S : Stk} {Z Z1 : StkA} (h9 : same S Z Z1) : Z1.by₇ = Z.by₇ := h9.2.2.2.2.2.2.2.2.2.2.2.2.2.2.2.2.2.2.1
theorem same.pt {S : Stk} {Z Z1 : StkA} (h9 : same S Z Z1) : Z1.pt = Z.pt := h9.2.2.2.2.2.2.2.2.2.2.2.2.2.2.2.2.2.2.2.1
theorem same.nL {S : Stk} {Z Z1 : StkA} (h9 : same S Z Z1) : Z1.nL = Z.nL := h9.2.2.2.2.2.2.2.2.2.2.2.2.2.2.2.2.2.2.2.2.1
theorem same.nF {S : Stk} {Z Z1 : StkA} (h9 : same S Z Z1) : Z1.nF = Z.nF := h9.2.2.2.2.2.2.2.2.2.2.2.2.2.2.2.2.2.2.2.2.2
theorem rep.same {S : Stk} {Z Z1 : StkA} (I : sInv S) (R : rep S Z) (h : same S Z Z1) : rep S Z1 := ⟨(fun i z => (h.fr i z).trans (R.fr i z)), (fun i z => (h.fd i z).trans (R.fd i z)), (fun i z => (h.fc i z).trans (R.fc i z)), (fun i z => (h.dp i z).trans (R.dp i z)), (fun i z => (h.ca i z).trans (R.ca i z)), (fun i z => (h.cc i z).1.trans (R.cf i z)), (fun i z q => (h.cc i z).2.1.trans (R.fl i z q)), (fun p j z1 z2 => by
    have e1 := (I.pi p z1).fc
    have e2 := I.fcm (i := p + 1) (k := S.P) (by omega) (Nat.le_refl _)
    exact (h.cc _ (by omega)).2.2.trans (R.cp p j z1 z2)), (fun i z => (h.hs i z).trans (R.hs i z)), (by rw [h.bh]; exact R.bh), (h.lo.trans R.lo), (h.lb.trans R.lb), (h.la.trans R.la), (h.ll.trans R.ll), (h.lc.trans R.lc), (h.lp.trans R.lp), (h.lu.trans R.lu), (h.ld.trans R.ld), (h.ad.trans R.ad), (by rw [h.of]; exact R.of), (by rw [h.byt]; exact R.byt), (h.pt.trans R.pt), (h.nL.trans R.nL), (h.nF.trans R.nF)⟩
/-- the patches by hash, with P at place rk -/
def bhX (BH : Nat → Nat) (P rk : Nat) : Nat → Nat := fun i => if i < rk then BH i else if i = rk then P else BH (i - 1)
theorem bhX_arr {BH : Nat → Nat} {b : Nat → Int32} {P rk : Nat} (hr : rk ≤ P) (h : ∀ i, i < P → b i = nI (BH i)) : ∀ i, i < P + 1 → upd (va_cpy b b rk (rk + 1) (P - rk)) rk (nI P) i = nI (bhX BH P rk i) := by
  intro i hi
  unfold bhX
  by_cases e : i = rk
  · subst e
    rw [upd_eq, if_neg (by omega), if_pos rfl]
  · rw [upd_ne _ e]
    by_cases z : i < rk
    · rw [if_pos z, vcp_out _ _ (by omega), h i (by omega)]
    · rw [if_neg z, if_neg e, vcp_in _ _ (by omega) (by omega), h _ (by omega)]
      congr 2
      omega
theorem bhX_lt {BH : Nat → Nat} {P rk : Nat} (h : ∀ i, i < P → BH i < P) : ∀ i, i < P + 1 → rk ≤ P → bhX BH P rk i < P + 1 := by
  intro i hi hr
  unfold bhX
  by_cases z : i < rk
  · rw [if_pos z]; have := h i (by omega); omega
  · rw [if_neg z]
    by_cases e : i = rk
    · rw [if_pos e]; omega
    · rw [if_neg e]; have := h (i - 1) (by omega); omega
theorem bhX_sur {BH : Nat → Nat} {P rk : Nat} (hr : rk ≤ P) (h : ∀ p, p < P → ∃ i, i < P ∧ BH i = p) : ∀ p, p < P + 1 → ∃ i, i < P + 1 ∧ bhX BH P rk i = p := by
  intro p hp
  by_cases e : p = P
  · subst e
    refine ⟨rk, by omega, ?_⟩
    unfold bhX
    rw [if_neg (by omega), if_pos rfl]
  · obtain ⟨i, h1, h2⟩ := h p (by omega)
    by_cases z : i < rk
    · refine ⟨i, by omega, ?_⟩
      unfold bhX
      rw [if_pos z, h2]
    · refine ⟨i + 1, by omega, ?_⟩
      unfold bhX
      rw [if_neg (by omega), if_neg (by omega), Nat.add_sub_cancel, h2]
theorem sq_total (a b : List Nat) : a < b ∨ a = b ∨ b < a := by
  rcases Classical.em (a < b) with h | h
  · exact Or.inl h
  · rcases Classical.em (b < a) with h2 | h2
    · exact Or.inr (Or.inr h2)
    · exact Or.inr (Or.inl (List.le_antisymm (List.not_lt.mp h2) (List.not_lt.mp h)))
theorem bhX_up {BH : Nat → Nat} {hf : Nat → Int32} {P rk : Nat} (hu : hs_up hf BH P) (hn : ∀ i, i < P → ¬ sq hf (BH i * 32) 32 = sq hf (P * 32) 32) (hk : rk_ok hf hf BH P (P * 32) rk) : hs_up hf (bhX BH P rk) (P + 1) := by
  obtain ⟨h1, h2, h3⟩ := hk
  have g2 : ∀ i, i < rk → sq hf (BH i * 32) 32 < sq hf (P * 32) 32 := fun i z => (bo_lt _ _ _ _ _).mp (h2 i z)
  have g3 : ∀ i, rk ≤ i → i < P → sq hf (P * 32) 32 < sq hf (BH i * 32) 32 := fun i z1 z2 => by
    rcases sq_total (sq hf (BH i * 32) 32) (sq hf (P * 32) 32) with z | z | z
    · exact absurd ((bo_lt _ _ _ _ _).mpr z) (h3 i z1 z2)
    · exact absurd z (hn i z2)
    · exact z
  intro i k hik hk
  unfold bhX
  by_cases a : i < rk
  · rw [if_pos a]
    by_cases b : k < rk
    · rw [if_pos b]; exact hu i k hik (by omega)
    · rw [if_neg b]
      by_cases c : k = rk
      · rw [if_pos c]; exact g2 i a
      · rw [if_neg c]; exact hu i (k - 1) (by omega) (by omega)
  · rw [if_neg a]
    by_cases d : i = rk
    · rw [if_pos d, if_neg (by omega), if_neg (by omega)]
      exact g3 (k - 1) (by omega) (by omega)
    · rw [if_neg d, if_neg (by omega), if_neg (by omega)]
      exact hu (i - 1) (k - 1) (by omega) (by omega)
/-- the dependencies of the candidate -/
noncomputable def dpN (S : Stk) (bf hs : Nat → Int32) : Nat → Nat := fun k => pQ hs S.BH S.P bf (S.FR S.P + 2 + k * 32)
/-- the files that the changes of the candidate are about -/
def cfOk (S : Stk) (bf hs : Nat → Int32) (en : Nat) (CF1 : Nat → Nat) : Prop := (∀ i, i < S.FC S.P → CF1 i = S.CF i) ∧ rsA bf (dpN S bf hs) S.FC (caX S bf en) CF1 (clX bf (caX S bf en) S.CL (S.FC S.P) (S.NLp S.P)) S.P (tw bf (S.FR S.P)) (S.FC S.P) (S.NFp S.P) (tw bf (S.FR S.P + 2 + tw bf (S.FR S.P) * 32))
/-- all dependencies of the candidate are named -/
def nmOk (S : Stk) (bf : Nat → Int32) (en : Nat) : Prop := ∀ k, k < tw bf (S.FR S.P) → ¬ nmXs bf (tw bf (S.FR S.P)) (caX S bf en) (S.FC S.P) (tw bf (S.FR S.P + 2 + tw bf (S.FR S.P) * 32)) (fun _ => 0) k = 0
def fuOk (S : Stk) (bf : Nat → Int32) (en : Nat) (CF1 : Nat → Nat) : Prop := fuR bf (caX S bf en) CF1 (S.FC S.P) (tw bf (S.FR S.P + 2 + tw bf (S.FR S.P) * 32)) (S.LOp S.P) S.P en (NFs bf (caX S bf en) (S.FC S.P) (S.NFp S.P) (tw bf (S.FR S.P + 2 + tw bf (S.FR S.P) * 32))) (NLs bf (caX S bf en) (S.FC S.P) (S.NLp S.P) (tw bf (S.FR S.P + 2 + tw bf (S.FR S.P) * 32)))
def dpOk (S : Stk) (bf hs : Nat → Int32) (mw : Nat → Int64) : Prop := ∀ k, k < tw bf (S.FR S.P) → depOk hs S.BH S.P bf mw (S.FR S.P) k
/-- the i-th patch by hash has the candidate's hash -/
def hit (S : Stk) (bf : Nat → Int32) (en i : Nat) : Prop := i < S.P ∧ sq S.hf (S.BH i * 32) 32 = sq (sh_outb (dg bf (S.FR S.P) (en - S.FR S.P))) 0 32
theorem rep.sq {S : Stk} {hs : Nat → Int32} (I : sInv S) (R : ∀ i, i < S.P * 32 → hs i = S.hf i) {i : Nat} (hi : i < S.P) : sq hs (S.BH i * 32) 32 = sq S.hf (S.BH i * 32) 32 := sq_congr 32 _ _ (fun k hk => R _ (by have := I.bh i hi; omega))
theorem rep.up {S : Stk} {hs : Nat → Int32} (I : sInv S) (R : ∀ i, i < S.P * 32 → hs i = S.hf i) : hs_up hs S.BH S.P := fun i k h1 h2 => by
  rw [rep.sq I R h2, rep.sq I R (Nat.lt_trans h1 h2)]
  exact I.up i k h1 h2
theorem dpN_ok {S : Stk} {bf hs : Nat → Int32} {mw : Nat → Int64} (I : sInv S) (R : ∀ i, i < S.P * 32 → hs i = S.hf i) (h : dpOk S bf hs mw) : ∀ k, k < tw bf (S.FR S.P) → dpN S bf hs k < S.P ∧ sq S.hf (dpN S bf hs k * 32) 32 = sq bf (S.FR S.P + 2 + k * 32) 32 ∧ re_ok mw (nI (dpN S bf hs k)) := fun k hk => by
  obtain ⟨q, h1, h2⟩ := h k hk
  have e : dpN S bf hs k = q := pQ_eq (rep.up I R) h1
  obtain ⟨i, z1, z2, z3⟩ := h1
  rw [e]
  refine ⟨by rw [z3]; exact I.bh i z1, ?_, h2⟩
  rw [z3, ← rep.sq I R z1]; exact z2
theorem cand_of {S : Stk} {bf hs : Nat → Int32} {mw : Nat → Int64} {en : Nat} {CF1 : Nat → Nat} (I : sInv S) (A : ∀ i, i < S.FR S.P → S.f i = bf i) (R : ∀ i, i < S.P * 32 → hs i = S.hf i) (hK : kept bf (S.FR S.P) en) (hD : dpOk S bf hs mw) (hC : cfOk S bf hs en CF1) (hN : nmOk S bf en) : cand S bf en (dpN S bf hs) CF1 (tw bf (S.FR S.P)) (tw bf (S.FR S.P + 2 + tw bf (S.FR S.P) * 32)) := ⟨(A), (rfl), (rfl), (hK), (fun k z => ⟨(dpN_ok I R hD k z).1, (dpN_ok I R hD k z).2.1⟩), (hC.1), (hC.2), (hN)⟩
/-- what settling the candidate answers, and the stock behind it -/
def stl (S : Stk) (bf hs : Nat → Int32) (en : Nat) (mw : Nat → Int64) (r : Int32) (S1 : Stk) : Prop :=
  (r = -1 ∧ S1 = S ∧ ¬ kept bf (S.FR S.P) en) ∨
  (r = -2 ∧ S1 = S ∧ kept bf (S.FR S.P) en ∧ ¬ dpOk S bf hs mw) ∨
  (S1 = S ∧ kept bf (S.FR S.P) en ∧ dpOk S bf hs mw ∧ ∃ i, hit S bf en i ∧ ((rowIn S.lo mw (S.BH i * 8) ∧ r = nI (S.BH i)) ∨ (¬ rowIn S.lo mw (S.BH i * 8) ∧ r = -2))) ∨
  (kept bf (S.FR S.P) en ∧ dpOk S bf hs mw ∧ (∀ i, ¬ hit S bf en i) ∧
    ((r = -3 ∧ S1 = S ∧ ¬ ∃ CF1, cfOk S bf hs en CF1) ∨
     (r = -4 ∧ S1 = S ∧ (∃ CF1, cfOk S bf hs en CF1) ∧ ¬ nmOk S bf en) ∨
     (∃ CF1, cfOk S bf hs en CF1 ∧ nmOk S bf en ∧
       ((r = -5 ∧ S1 = S ∧ fuOk S bf en CF1) ∨
        (r = nI S.P ∧ ¬ fuOk S bf en CF1 ∧ ∃ BH1 hf1 lo1 lb1 la ll lc lp lu ld ad, S1 = S.ext bf en (dpN S bf hs) CF1 BH1 (tw bf (S.FR S.P)) (tw bf (S.FR S.P + 2 + tw bf (S.FR S.P) * 32)) hf1 lo1 lb1 la ll lc lp lu ld ad ∧ sInv S1)))))
end
section
/-! 82.cand.lean.txt -/
theorem sInv.cfl {S : Stk} (I : sInv S) {i : Nat} (hi : i < S.FC S.P) : S.CF i < S.NFp S.P := by
  suffices h : ∀ k, k ≤ S.P → ∀ i, i < S.FC k → S.CF i < S.NFp k from h _ (Nat.le_refl _) i hi
  intro k
  induction k with
  | zero => intro _ i h; rw [I.fc0] at h; exact absurd h (Nat.not_lt_zero _)
  | succ k ih =>
    intro hk i h
    have p := I.pi k (by omega)
    rw [p.fc] at h
    rw [p.nf]
    exact rsA.lt (fun q z => (p.dep q z).1) (fun q z => I.fcm (by omega) (by omega)) (ih (by omega)) p.rs i h
theorem sInv.cll {S : Stk} (I : sInv S) {i : Nat} (hi : i < S.FC S.P) : S.CL i ≤ 4000 := by
  obtain ⟨p, j, h1, h2, rfl⟩ := I.own (Nat.le_refl _) hi
  have q := I.pi p h1
  rw [q.cl j h2]
  have e1 := NLs_mono S.f S.CA (S.FC p) (S.NLp p) (i := j) (j := S.nT p) (by omega)
  rw [← q.nl] at e1
  have e2 := I.nlm (i := p + 1) (k := S.P) (by omega) (Nat.le_refl _)
  have e3 := I.nlP
  omega
theorem insR.len {f : Nat → Int32} {en a b : Nat} (h : insR f en a b) : a + tw f (lnAt f a) ≤ b := by
  obtain ⟨q1, q2, p1, p2, p3, p4, p5⟩ := h
  have e : lnAt f a = q2 := by unfold lnAt; rw [p1.end, p2.end]
  have l1 := p1.le
  have l2 := p2.le
  have e2 := lnsR.end p5
  have e3 := lnP_ge f (q2 + 2) (tw f q2)
  rw [e]
  omega
theorem NLs_len {f : Nat → Int32} {CA : Nat → Nat} {c0 NL0 en a T : Nat} (h : chain f en a T) (hA : ∀ j, j < T → CA (c0 + j) = sS f en a j) : ∀ j, j ≤ T → NLs f CA c0 NL0 j + a ≤ NL0 + sS f en a j
  | 0, _ => Nat.le_refl _
  | j + 1, hj => by
    have ih := NLs_len (NL0 := NL0) h hA j (by omega)
    have hc := (h j (by omega)).2
    have hl := hc.le
    by_cases e : f (CA (c0 + j)) = 2
    · rw [NLs_eq e, hA j (by omega)]
      rw [hA j (by omega)] at e
      have := (chR_2 e hc).len
      omega
    · rw [NLs_ne e]
      omega
theorem chR.V {f : Nat → Int32} {en a b : Nat} (he : en ≤ 288900) (ha : a < en) (h : chR f en a b) : chV f a := by
  have w := h.W
  have b5 := b8_lt (f (a + 5))
  refine ⟨by omega, h.kd, fun _ => by omega, fun e => ?_, fun e => by omega, fun e => by omega⟩
  obtain ⟨w1, w2, w3, w4⟩ := w.2.2.1 e
  exact ⟨by omega, by omega, by omega⟩
theorem nmU_pt {f : Nat → Int32} {nd k n : Nat} {g g' : Nat → Int32} (h : ∀ i, i < n → g i = g' i) : ∀ i, i < n → nmU f nd k g i = nmU f nd k g' i := by
  intro i hi
  unfold nmU
  by_cases e : tw f k < nd
  · rw [if_pos e, if_pos e]
    by_cases z : i = tw f k
    · rw [z, upd_eq, upd_eq]
    · rw [upd_ne _ z, upd_ne _ z, h i hi]
  · rw [if_neg e, if_neg e, h i hi]
theorem nmUs_pt {f : Nat → Int32} {nd k n : Nat} {g g' : Nat → Int32} (h : ∀ i, i < n → g i = g' i) : ∀ m i, i < n → nmUs f nd k m g i = nmUs f nd k m g' i
  | 0, i, hi => h i hi
  | m + 1, i, hi => nmU_pt (nmUs_pt h m) i hi
theorem nmX_pt {f : Nat → Int32} {nd a n : Nat} {g g' : Nat → Int32} (h : ∀ i, i < n → g i = g' i) : ∀ i, i < n → nmX f nd a g i = nmX f nd a g' i := by
  intro i hi
  unfold nmX
  by_cases e0 : f a = 0
  · rw [if_pos e0, if_pos e0, h i hi]
  rw [if_neg e0, if_neg e0]
  by_cases e1 : f a = 1
  · rw [if_pos e1, if_pos e1]; exact nmUs_pt (nmU_pt h) _ i hi
  rw [if_neg e1, if_neg e1]
  by_cases e2 : f a = 2
  · rw [if_pos e2, if_pos e2]
    unfold nmI
    by_cases z1 : f (a + 5) = 0 <;> by_cases z2 : f (plEnd f (a + 5)) = 0
    · rw [if_pos z2, if_pos z2, if_pos z1, if_pos z1]; exact nmU_pt h i hi
    · rw [if_neg z2, if_neg z2, if_pos z1, if_pos z1]; exact nmU_pt (nmU_pt h) i hi
    · rw [if_pos z2, if_pos z2, if_neg z1, if_neg z1]; exact nmU_pt (nmU_pt h) i hi
    · rw [if_neg z2, if_neg z2, if_neg z1, if_neg z1]; exact nmU_pt (nmU_pt (nmU_pt h)) i hi
  rw [if_neg e2, if_neg e2]
  by_cases e3 : f a = 3
  · rw [if_pos e3, if_pos e3]; exact nmU_pt h i hi
  rw [if_neg e3, if_neg e3]
  exact nmU_pt (nmU_pt h) i hi
theorem nmXs_pt {f : Nat → Int32} {nd c0 n : Nat} {CA : Nat → Nat} {g g' : Nat → Int32} (h : ∀ i, i < n → g i = g' i) : ∀ j i, i < n → nmXs f nd CA c0 j g i = nmXs f nd CA c0 j g' i
  | 0, i, hi => h i hi
  | j + 1, i, hi => nmX_pt (nmXs_pt h j) i hi
theorem lcs_out {f : Nat → Int32} {CA CF LO : Nat → Nat} {c0 y : Nat} : ∀ {j}, (∀ i, i < j → f (CA (c0 + i)) = 2 → ¬ y = CF (c0 + i)) → lcs f CA CF c0 j LO y = LO y
  | 0, _ => rfl
  | j + 1, h => by
    have ih := lcs_out (j := j) (LO := LO) (fun i z => h i (by omega))
    by_cases e : f (CA (c0 + j)) = 2
    · rw [lcs_eq e, upN_ne _ (h j (by omega) e), ih]
    · rw [lcs_ne e, ih]
/-- what is known of a candidate that has the form of bytes -/
def cK (S : Stk) (Z : StkA) (en : Nat) : Prop := sInv S ∧ rep S Z ∧ kept Z.by₇ (S.FR S.P) en ∧ en ≤ 288900 ∧ S.FC S.P + tw Z.by₇ (S.FR S.P + 2 + tw Z.by₇ (S.FR S.P) * 32) ≤ 38000 ∧ en ≤ S.FR S.P + 88900
theorem cK.hT {S : Stk} {Z : StkA} {en : Nat} (I : sInv S) (R : rep S Z) (hk : kept Z.by₇ (S.FR S.P) en) (he : en ≤ S.FR S.P + 88900) (hr : ∀ i, i < tw Z.by₇ (S.FR S.P + 2 + tw Z.by₇ (S.FR S.P) * 32) → S.FR S.P + 4 + 7 * i < en → S.FC S.P + i < 38000) : cK S Z en := by
  have h1 := hk.len
  have h2 := hk.2.2.2.1
  have h3 := hr (tw Z.by₇ (S.FR S.P + 2 + tw Z.by₇ (S.FR S.P) * 32) - 1) (by omega) (by omega)
  have h4 := I.frP
  exact ⟨I, R, hk, by omega, by omega, he⟩
section
variable {S : Stk} {Z : StkA} {en : Nat}
theorem cK.chg (K : cK S Z en) {j : Nat} (hj : j < tw Z.by₇ (S.FR S.P + 2 + tw Z.by₇ (S.FR S.P) * 32)) : caX S Z.by₇ en (S.FC S.P + j) < en ∧ chR Z.by₇ en (caX S Z.by₇ en (S.FC S.P + j)) (sS Z.by₇ en (S.FR S.P + 2 + tw Z.by₇ (S.FR S.P) * 32 + 2) (j + 1)) := by
  rw [caX_ge]
  exact K.2.2.1.2.2.2.2.1 j hj
theorem cK.w (K : cK S Z en) {x : Nat} (hx : x < S.FC S.P + tw Z.by₇ (S.FR S.P + 2 + tw Z.by₇ (S.FR S.P) * 32)) : chW Z.by₇ en (caX S Z.by₇ en x) := by
  obtain ⟨I, R, hk, he, hT⟩ := K
  by_cases e : x < S.FC S.P
  · rw [caX_lt e]
    exact (chW_cg R.byt (I.chw (Nat.le_refl _) e)).mono (by have := hk.len; omega)
  · obtain ⟨j, rfl⟩ : ∃ j, x = S.FC S.P + j := ⟨x - S.FC S.P, by omega⟩
    exact (cK.chg ⟨I, R, hk, he, hT⟩ (by omega)).2.W
theorem cK.gA (K : cK S Z en) {uc : Nat → Int32} (h1 : ∀ i, i < S.FC S.P → uc i = Z.ca i) (h2 : ∀ j, j < tw Z.by₇ (S.FR S.P + 2 + tw Z.by₇ (S.FR S.P) * 32) → uc (S.FC S.P + j) = nI (sS Z.by₇ en (S.FR S.P + 2 + tw Z.by₇ (S.FR S.P) * 32 + 2) j)) : ∀ i, i < S.FC S.P + tw Z.by₇ (S.FR S.P + 2 + tw Z.by₇ (S.FR S.P) * 32) → uc i = nI (caX S Z.by₇ en i) ∧ caX S Z.by₇ en i + 5 < 290000 := by
  intro i hi
  have w := (K.w hi).1
  have he := K.2.2.2.1
  refine ⟨?_, by omega⟩
  by_cases e : i < S.FC S.P
  · rw [caX_lt e, h1 i e]; exact K.2.1.ca i e
  · obtain ⟨j, rfl⟩ : ∃ j, i = S.FC S.P + j := ⟨i - S.FC S.P, by omega⟩
    rw [caX_ge, h2 j (by omega)]
theorem cK.gI (K : cK S Z en) : ∀ i, i < S.FC S.P + tw Z.by₇ (S.FR S.P + 2 + tw Z.by₇ (S.FR S.P) * 32) → Z.by₇ (caX S Z.by₇ en i) = 2 → plEnd Z.by₇ (caX S Z.by₇ en i + 5) < 290000 ∧ lnAt Z.by₇ (caX S Z.by₇ en i) + 1 < 290000 := by
  intro i hi e
  obtain ⟨w1, w2, w3, w4⟩ := (K.w hi).2.2.1 e
  have he := K.2.2.2.1
  exact ⟨by omega, by omega⟩
theorem cK.gN (K : cK S Z en) : ∀ i, i < S.FC S.P + tw Z.by₇ (S.FR S.P + 2 + tw Z.by₇ (S.FR S.P) * 32) → Z.by₇ (caX S Z.by₇ en i) = 1 → nmAt Z.by₇ (caX S Z.by₇ en i) < 290000 := by
  intro i hi e
  have w := (K.w hi).2.1 e
  have he := K.2.2.2.1
  have e1 : nmAt Z.by₇ (caX S Z.by₇ en i) = caX S Z.by₇ en i + 6 + 4 * b8 (Z.by₇ (caX S Z.by₇ en i + 5)) := if_neg (by rw [e]; decide)
  omega
theorem cK.gCL (K : cK S Z en) : ∀ i, i < S.FC S.P → Z.by₇ (caX S Z.by₇ en i) = 2 → Z.fl i = nI (S.CL i) ∧ S.CL i < 200000 := by
  intro i hi e
  have w := (K.1.chw (Nat.le_refl _) hi).1
  rw [caX_lt hi, ← K.2.1.byt _ (by omega)] at e
  have := K.1.cll hi
  exact ⟨K.2.1.fl i hi e, by omega⟩
theorem cK.gV (K : cK S Z en) : ∀ i, S.FC S.P ≤ i → i < S.FC S.P + tw Z.by₇ (S.FR S.P + 2 + tw Z.by₇ (S.FR S.P) * 32) → chV Z.by₇ (caX S Z.by₇ en i) := by
  intro i h1 h2
  obtain ⟨j, rfl⟩ : ∃ j, i = S.FC S.P + j := ⟨i - S.FC S.P, by omega⟩
  have c := K.chg (j := j) (by omega)
  exact c.2.V K.2.2.2.1 c.1
theorem cK.gNL (K : cK S Z en) : ∀ j, j ≤ tw Z.by₇ (S.FR S.P + 2 + tw Z.by₇ (S.FR S.P) * 32) → NLs Z.by₇ (caX S Z.by₇ en) (S.FC S.P) (S.NLp S.P) j < 200000 := by
  intro j hj
  have h := NLs_len (NL0 := S.NLp S.P) K.2.2.1.2.2.2.2.1 (CA := caX S Z.by₇ en) (c0 := S.FC S.P) (fun q _ => caX_ge) j hj
  have h1 := K.1.nlP
  have h2 : sS Z.by₇ en (S.FR S.P + 2 + tw Z.by₇ (S.FR S.P) * 32 + 2) j ≤ en := by
    match j with
    | 0 => have := K.2.2.1.2.1; exact this
    | q + 1 => exact ((K.2.2.1.2.2.2.2.1 q (by omega)).2.le).2
  have h3 := K.2.2.2.2.2
  omega
theorem cK.gP (K : cK S Z en) : ∀ c, S.FC S.P ≤ c → c < S.FC S.P + tw Z.by₇ (S.FR S.P + 2 + tw Z.by₇ (S.FR S.P) * 32) → Z.by₇ (caX S Z.by₇ en c) = 2 → ∀ i, i < tw Z.by₇ (lnAt Z.by₇ (caX S Z.by₇ en c)) → lnP Z.by₇ (lnAt Z.by₇ (caX S Z.by₇ en c) + 2) i + 2 + tw Z.by₇ (lnP Z.by₇ (lnAt Z.by₇ (caX S Z.by₇ en c) + 2) i) < 290000 := by
  intro c h1 h2 e i hi
  obtain ⟨j, rfl⟩ : ∃ j, c = S.FC S.P + j := ⟨c - S.FC S.P, by omega⟩
  have q := (insR.P (chR_2 e (K.chg (j := j) (by omega)).2) i hi)
  have he := K.2.2.2.1
  have := q.2.2.2.1
  omega
theorem cK.gF (K : cK S Z en) {hs : Nat → Int32} {mw : Nat → Int64} {CF1 : Nat → Nat} (R : ∀ i, i < S.P * 32 → hs i = S.hf i) (hD : dpOk S Z.by₇ hs mw) (hC : cfOk S Z.by₇ hs en CF1) : ∀ i, i < S.FC S.P + tw Z.by₇ (S.FR S.P + 2 + tw Z.by₇ (S.FR S.P) * 32) → CF1 i < NFs Z.by₇ (caX S Z.by₇ en) (S.FC S.P) (S.NFp S.P) (tw Z.by₇ (S.FR S.P + 2 + tw Z.by₇ (S.FR S.P) * 32)) :=
  rsA.lt (fun q z => (dpN_ok K.1 R hD q z).1) (fun q z => K.1.fcm (by omega) (Nat.le_refl _)) (fun i z => by rw [hC.1 i z]; exact K.1.cfl z) hC.2
end
end
section
/-! 83.kept.lean.txt -/
theorem sq_dg {D hs : Nat → Int32} (P : Nat) : sq (sh_out D (P * 32) 32 hs) (P * 32) 32 = sq (sh_outb D) 0 32 := sq_congr 32 _ _ (fun k hk => by
  unfold sh_out
  rw [if_pos (by omega), Nat.add_sub_cancel_left, Nat.zero_add])
theorem hit_iff {S : Stk} {bf hs : Nat → Int32} {en i : Nat} (I : sInv S) (R : ∀ i, i < S.P * 32 → hs i = S.hf i) (hi : i < S.P) : (sq (sh_out (dg bf (S.FR S.P) (en - S.FR S.P)) (S.P * 32) 32 hs) (S.BH i * 32) 32 = sq (sh_out (dg bf (S.FR S.P) (en - S.FR S.P)) (S.P * 32) 32 hs) (S.P * 32) 32) ↔ hit S bf en i := by
  have hb := I.bh i hi
  rw [sq_dg, sq_out (by omega), rep.sq I R hi]
  exact ⟨fun z => ⟨hi, z⟩, fun z => z.2⟩
/-- what keeping the contents does -/
def kpt (S : Stk) (bf hs : Nat → Int32) (en : Nat) (CF1 : Nat → Nat) (Z : StkA) (la ll lc lp lu ld of ad : Nat → Int32) : Prop :=
  (∀ i, i < tw bf (S.FR S.P + 2 + tw bf (S.FR S.P) * 32) → bf (caX S bf en (S.FC S.P + i)) = 2 → liR bf (dpN S bf hs) S.FC (clX bf (caX S bf en) S.CL (S.FC S.P) (S.NLp S.P)) S.P (tw bf (S.FR S.P)) (S.FC S.P + i) (caX S bf en (S.FC S.P + i)) (NLs bf (caX S bf en) (S.FC S.P) (S.NLp S.P) i) la ll lc lp lu ld) ∧
  (∀ q, q < S.NLp S.P → la q = Z.la q ∧ ll q = Z.ll q ∧ lc q = Z.lc q ∧ lp q = Z.lp q ∧ lu q = Z.lu q ∧ ld q = Z.ld q) ∧
  (∀ i, i < 200 → of i = nI (lcs bf (caX S bf en) CF1 (S.FC S.P) (tw bf (S.FR S.P + 2 + tw bf (S.FR S.P) * 32)) (S.LOp S.P) i) ∧ lcs bf (caX S bf en) CF1 (S.FC S.P) (tw bf (S.FR S.P + 2 + tw bf (S.FR S.P) * 32)) (S.LOp S.P) i ≤ 400) ∧
  (∀ i, i < tw bf (S.FR S.P + 2 + tw bf (S.FR S.P) * 32) → bf (caX S bf en (S.FC S.P + i)) = 0 → ad (NFs bf (caX S bf en) (S.FC S.P) (S.NFp S.P) i) = nI (S.FC S.P + i)) ∧
  (∀ i, i < S.NFp S.P → ad i = Z.ad i)
theorem more_of {S : Stk} {Z : StkA} {en rk : Nat} {mw : Nat → Int64} {CF1 : Nat → Nat} {la ll lc lp lu ld of ad : Nat → Int32} {lo1 lb1 : Nat → Int64} (K : cK S Z en) (hD : dpOk S Z.by₇ Z.hs mw) (hC : cfOk S Z.by₇ Z.hs en CF1) (hf : ¬ fuOk S Z.by₇ en CF1) (hu : ∀ i, i < S.P → ¬ sq (sh_out (dg Z.by₇ (S.FR S.P) (en - S.FR S.P)) (S.P * 32) 32 Z.hs) (S.BH i * 32) 32 = sq (sh_out (dg Z.by₇ (S.FR S.P) (en - S.FR S.P)) (S.P * 32) 32 Z.hs) (S.P * 32) 32) (hk : kpt S Z.by₇ Z.hs en CF1 Z la ll lc lp lu ld of ad) (hn : lnO Z.lo lo1 (dpN S Z.by₇ Z.hs) S.P (tw Z.by₇ (S.FR S.P))) (hr : rk_ok (sh_out (dg Z.by₇ (S.FR S.P) (en - S.FR S.P)) (S.P * 32) 32 Z.hs) (sh_out (dg Z.by₇ (S.FR S.P) (en - S.FR S.P)) (S.P * 32) 32 Z.hs) S.BH S.P (S.P * 32) rk) (hb : lb1 = lbX Z.lb lo1 S.P S.P) :
    more S Z.by₇ en (dpN S Z.by₇ Z.hs) CF1 (bhX S.BH S.P rk) (tw Z.by₇ (S.FR S.P)) (tw Z.by₇ (S.FR S.P + 2 + tw Z.by₇ (S.FR S.P) * 32)) (sh_out (dg Z.by₇ (S.FR S.P) (en - S.FR S.P)) (S.P * 32) 32 Z.hs) lo1 lb1 la ll lc lp lu ld ad := by
  obtain ⟨I, R, hkp, he, hT, hsz⟩ := id K
  have f1 : S.P < 500 := Nat.lt_of_not_le (fun z => hf (Or.inl z))
  have f2 : en ≤ 200000 := Nat.le_of_not_lt (fun z => hf (Or.inr (Or.inl z)))
  have f3 := Nat.le_of_not_lt (fun z => hf (Or.inr (Or.inr (Or.inl z))))
  have f4 := Nat.le_of_not_lt (fun z => hf (Or.inr (Or.inr (Or.inr (Or.inl z)))))
  have hr1 := hr.1
  refine ⟨f1, f2, f3, f4, ?_, fun i z => bhX_lt I.bh i z hr1, ?_, bhX_sur hr1 I.sur, ?_, ?_, R.lo ▸ hn, R.lb ▸ hb, hk.1, ?_, hk.2.2.2.1, ?_⟩
  · intro y
    by_cases z : y < 200
    · exact (hk.2.2.1 y z).2
    · rw [lcs_out (fun i h1 _ => by
        have := K.gF R.hs hD hC (S.FC S.P + i) (by omega)
        omega)]
      exact I.loP y
  · refine bhX_up (fun i k h1 h2 => ?_) hu hr
    have b1 := I.bh i (by omega)
    have b2 := I.bh k h2
    rw [sq_out (by omega), sq_out (by omega)]
    exact rep.up I R.hs i k h1 h2
  · intro i hi
    unfold sh_out
    rw [if_neg (by omega)]
    exact R.hs i hi
  · intro k hk
    unfold sh_out
    rw [if_pos (by omega), Nat.add_sub_cancel_left]
  · intro q hq
    rw [← R.la, ← R.ll, ← R.lc, ← R.lp, ← R.lu, ← R.ld]
    exact hk.2.1 q hq
  · intro i hi
    rw [← R.ad]
    exact hk.2.2.2.2 i hi
theorem rep_ext {S : Stk} {Z : StkA} {en rk : Nat} {mw : Nat → Int64} {CF1 : Nat → Nat} {fr1 fd1 fc1 dp1 ca1 cp1 cf1 fl1 bh1 na lf sm wd bl la ll lc lp lu ld of ad hf1 : Nat → Int32} {lo1 lb1 : Nat → Int64} {v1 v2 v3 v4 : Value} (K : cK S Z en) (hD : dpOk S Z.by₇ Z.hs mw) (hC : cfOk S Z.by₇ Z.hs en CF1)
    (g1 : ∀ i, i ≤ S.P → fr1 i = Z.fr i) (g2 : fr1 (S.P + 1) = nI en) (g3 : fd1 = upd Z.fd (S.P + 1) (nI (S.FD S.P + tw Z.by₇ (S.FR S.P)))) (g4 : fc1 = upd Z.fc (S.P + 1) (nI (S.FC S.P + tw Z.by₇ (S.FR S.P + 2 + tw Z.by₇ (S.FR S.P) * 32)))) (g5 : ∀ i, i < S.FD S.P → dp1 i = Z.dp i) (g6 : ∀ i, i < tw Z.by₇ (S.FR S.P) → dp1 (S.FD S.P + i) = nI (dpN S Z.by₇ Z.hs i))
    (g7 : ∀ i, i < S.FC S.P + tw Z.by₇ (S.FR S.P + 2 + tw Z.by₇ (S.FR S.P) * 32) → ca1 i = nI (caX S Z.by₇ en i)) (g8 : ∀ i, i < S.FC S.P + tw Z.by₇ (S.FR S.P + 2 + tw Z.by₇ (S.FR S.P) * 32) → cf1 i = nI (CF1 i)) (g9 : ∀ i, i < S.FC S.P + tw Z.by₇ (S.FR S.P + 2 + tw Z.by₇ (S.FR S.P) * 32) → Z.by₇ (caX S Z.by₇ en i) = 2 → fl1 i = nI (clX Z.by₇ (caX S Z.by₇ en) S.CL (S.FC S.P) (S.NLp S.P) i)) (g10 : ∀ i, i < S.FC S.P → cp1 i = Z.cp i) (g11 : ∀ i, S.FC S.P ≤ i → i < S.FC S.P + tw Z.by₇ (S.FR S.P + 2 + tw Z.by₇ (S.FR S.P) * 32) → cp1 i = nI S.P)
    (g12 : ∀ i, i < S.P + 1 → bh1 i = nI (bhX S.BH S.P rk i)) (g13 : ∀ i, i < 200 → of i = nI (lcs Z.by₇ (caX S Z.by₇ en) CF1 (S.FC S.P) (tw Z.by₇ (S.FR S.P + 2 + tw Z.by₇ (S.FR S.P) * 32)) (S.LOp S.P) i)) :
    rep (S.ext Z.by₇ en (dpN S Z.by₇ Z.hs) CF1 (bhX S.BH S.P rk) (tw Z.by₇ (S.FR S.P)) (tw Z.by₇ (S.FR S.P + 2 + tw Z.by₇ (S.FR S.P) * 32)) hf1 lo1 lb1 la ll lc lp lu ld ad) (StkA.mk Z.by₇ fr1 fd1 fc1 dp1 hf1 bh1 lo1 lb1 ca1 cp1 cf1 fl1 ad la ll lc lp lu ld of na lf sm wd bl v1 v2 v3 v4 (S.P + 1) (NLs Z.by₇ (caX S Z.by₇ en) (S.FC S.P) (S.NLp S.P) (tw Z.by₇ (S.FR S.P + 2 + tw Z.by₇ (S.FR S.P) * 32))) (NFs Z.by₇ (caX S Z.by₇ en) (S.FC S.P) (S.NFp S.P) (tw Z.by₇ (S.FR S.P + 2 + tw Z.by₇ (S.FR S.P) * 32)))) := by
  obtain ⟨I, R, hkp, he, hT, hsz⟩ := id K
  generalize hnd : tw Z.by₇ (S.FR S.P) = nd at *
  generalize hTT : tw Z.by₇ (S.FR S.P + 2 + nd * 32) = T at *
  have hl := hkp.len
  rw [hnd, hTT] at hl
  refine ⟨?_, ?_, ?_, ?_, ?_, ?_, ?_, ?_, fun _ _ => rfl, g12, rfl, rfl, rfl, rfl, rfl, rfl, rfl, rfl, rfl, ?_, fun _ _ => rfl, rfl, (upN_eq _ _ _).symm, (upN_eq _ _ _).symm⟩
  · intro i hi
    have hi : i ≤ S.P + 1 := hi
    show fr1 i = nI (upN S.FR (S.P + 1) en i)
    by_cases e : i = S.P + 1
    · rw [e, upN_eq]; exact g2
    · rw [upN_ne _ e, g1 i (by omega)]; exact R.fr i (by omega)
  · intro i hi
    have hi : i ≤ S.P + 1 := hi
    show fd1 i = nI (upN S.FD (S.P + 1) (S.FD S.P + nd) i)
    rw [g3]
    by_cases e : i = S.P + 1
    · rw [e, upN_eq, upd_eq]
    · rw [upN_ne _ e, upd_ne _ e]; exact R.fd i (by omega)
  · intro i hi
    have hi : i ≤ S.P + 1 := hi
    show fc1 i = nI (upN S.FC (S.P + 1) (S.FC S.P + T) i)
    rw [g4]
    by_cases e : i = S.P + 1
    · rw [e, upN_eq, upd_eq]
    · rw [upN_ne _ e, upd_ne _ e]; exact R.fc i (by omega)
  · intro i hi
    have hi : i < upN S.FD (S.P + 1) (S.FD S.P + nd) (S.P + 1) := hi
    rw [upN_eq] at hi
    show dp1 i = nI (if i < S.FD S.P then S.DP i else dpN S Z.by₇ Z.hs (i - S.FD S.P))
    by_cases e : i < S.FD S.P
    · rw [if_pos e, g5 i e]; exact R.dp i e
    · rw [if_neg e, ← g6 _ (by omega)]
      congr 1; omega
  · intro i hi
    have hi : i < upN S.FC (S.P + 1) (S.FC S.P + T) (S.P + 1) := hi
    rw [upN_eq] at hi
    exact g7 i hi
  · intro i hi
    have hi : i < upN S.FC (S.P + 1) (S.FC S.P + T) (S.P + 1) := hi
    rw [upN_eq] at hi
    exact g8 i hi
  · intro i hi
    have hi : i < upN S.FC (S.P + 1) (S.FC S.P + T) (S.P + 1) := hi
    rw [upN_eq] at hi
    exact g9 i hi
  · intro p j hp hj
    have hp : p < S.P + 1 := hp
    by_cases e : p = S.P
    · subst e
      have e1 : (S.ext Z.by₇ en (dpN S Z.by₇ Z.hs) CF1 (bhX S.BH S.P rk) nd T hf1 lo1 lb1 la ll lc lp lu ld ad).FC S.P = S.FC S.P := upN_ne _ (by omega)
      have e2 : (S.ext Z.by₇ en (dpN S Z.by₇ Z.hs) CF1 (bhX S.BH S.P rk) nd T hf1 lo1 lb1 la ll lc lp lu ld ad).FR S.P = S.FR S.P := upN_ne _ (by omega)
      have e3 : (S.ext Z.by₇ en (dpN S Z.by₇ Z.hs) CF1 (bhX S.BH S.P rk) nd T hf1 lo1 lb1 la ll lc lp lu ld ad).nT S.P = T := by
        unfold Stk.nT Stk.st Stk.nd
        rw [e2]
        show tw Z.by₇ (S.FR S.P + 2 + tw Z.by₇ (S.FR S.P) * 32) = T
        rw [hnd, hTT]
      rw [e3] at hj
      rw [e1]
      exact g11 _ (by omega) (by omega)
    · have hp2 : p < S.P := by omega
      have h := I.pi p hp2
      have m1 := I.frm (i := p + 1) (k := S.P) (by omega) (Nat.le_refl _)
      have m2 := I.fcm (i := p + 1) (k := S.P) (by omega) (Nat.le_refl _)
      have l1 := I.le1 hp2
      have l2 := h.fc
      have e1 : (S.ext Z.by₇ en (dpN S Z.by₇ Z.hs) CF1 (bhX S.BH S.P rk) nd T hf1 lo1 lb1 la ll lc lp lu ld ad).FC p = S.FC p := upN_ne _ (by omega)
      have e2 : (S.ext Z.by₇ en (dpN S Z.by₇ Z.hs) CF1 (bhX S.BH S.P rk) nd T hf1 lo1 lb1 la ll lc lp lu ld ad).FR p = S.FR p := upN_ne _ (by omega)
      have hg : ∀ i, i < S.FR (p + 1) → S.f i = Z.by₇ i := fun i z => R.byt i (by omega)
      have q1 : tw Z.by₇ (S.FR p) = S.nd p := (tw_cg hg (by omega)).symm
      have e3 : (S.ext Z.by₇ en (dpN S Z.by₇ Z.hs) CF1 (bhX S.BH S.P rk) nd T hf1 lo1 lb1 la ll lc lp lu ld ad).nT p = S.nT p := by
        unfold Stk.nT Stk.st Stk.nd
        rw [e2]
        show tw Z.by₇ (S.FR p + 2 + tw Z.by₇ (S.FR p) * 32) = tw S.f (S.FR p + 2 + S.nd p * 32)
        rw [q1]
        exact (tw_cg hg (by omega)).symm
      rw [e3] at hj
      rw [e1]
      exact (g10 _ (by omega)).trans (R.cp p j hp2 hj)
  · intro y hy
    show of y = nI ((if S.P + 1 = S.P + 1 then lcs Z.by₇ (caX S Z.by₇ en) CF1 (S.FC S.P) T (S.LOp S.P) else S.LOp (S.P + 1)) y)
    rw [if_pos rfl]
    exact g13 y hy
end
