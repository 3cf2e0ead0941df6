/-! 88.over.lean.txt -/
/-- the stock with other bytes behind it -/
def Stk.wf (S : Stk) (g : Nat → Int32) : Stk := Stk.mk S.P S.FR S.FD S.FC S.NFp S.NLp S.LOp S.DP S.CA S.CF S.CL S.BH g S.hf S.lo S.lb S.la S.ll S.lc S.lp S.lu S.ld S.ad
theorem sInv.wfp {S : Stk} (I : sInv S) {g : Nat → Int32} (hb : ∀ i, i < S.FR S.P → S.f i = g i) {p : Nat} (hp : p < S.P) : pInv (S.wf g) p := by
  have h := I.pi p hp
  have m1 := I.frm (i := p + 1) (k := S.P) (by omega) (Nat.le_refl _)
  have m2 := I.fcm (i := p + 1) (k := S.P) (by omega) (Nat.le_refl _)
  have l1 := I.le1 hp
  have l2 := h.fc
  have kc : chain S.f (S.FR (p + 1)) (S.st p + 2) (S.nT p) := h.kept.2.2.2.2.1
  have hg : ∀ i, i < S.FR (p + 1) → S.f i = g i := fun i z => hb i (by omega)
  have en1 : (S.wf g).nd p = S.nd p := by
    show tw g (S.FR p) = tw S.f (S.FR p)
    exact (tw_cg hg (by omega)).symm
  have est : (S.wf g).st p = S.st p := by
    unfold Stk.st
    rw [en1]; rfl
  have eT : (S.wf g).nT p = S.nT p := by
    unfold Stk.nT
    rw [est]
    show tw g (S.st p) = tw S.f (S.st p)
    exact (tw_cg hg (by unfold Stk.st; omega)).symm
  have AG : ∀ j, j ≤ S.nT p → Agr S.f g (S.dp p) (S.dp p) S.FC S.FC S.CA S.CA S.CF S.CF S.CL S.CL (S.FR (p + 1)) p (S.nd p) (S.FC p + j) := fun j hj => ⟨hg, fun _ _ => rfl, fun i z => (h.dep i z).1, fun _ _ => rfl, fun _ _ => rfl, fun _ _ => rfl, fun _ _ => rfl, fun i z => I.chw (k := p + 1) (by omega) (by omega), fun i z => Nat.le_trans (I.fcm (i := i + 1) (k := p) (by omega) (by omega)) (by omega)⟩
  have CH : ∀ j, j < S.nT p → chR S.f (S.FR (p + 1)) (S.CA (S.FC p + j)) (sS S.f (S.FR (p + 1)) (S.st p + 2) (j + 1)) ∧ S.f (S.CA (S.FC p + j)) = g (S.CA (S.FC p + j)) ∧ (S.f (S.CA (S.FC p + j)) = 2 → tw S.f (lnAt S.f (S.CA (S.FC p + j))) = tw g (lnAt g (S.CA (S.FC p + j)))) := fun j hj => by
    have c := I.chg hp hj
    have w := c.W
    refine ⟨c, hg _ (by have := w.1; omega), fun e => ?_⟩
    obtain ⟨w1, w2, w3, w4⟩ := w.2.2.1 e
    rw [← lnAt_cg hg w.1 w2]
    exact tw_cg hg w4
  have eNF : ∀ j, j ≤ S.nT p → NFs S.f S.CA (S.FC p) (S.NFp p) j = NFs g S.CA (S.FC p) (S.NFp p) j := fun j hj => NFs_cg (fun i z => ⟨rfl, (CH i (by omega)).2.1⟩)
  have eNL : ∀ j, j ≤ S.nT p → NLs S.f S.CA (S.FC p) (S.NLp p) j = NLs g S.CA (S.FC p) (S.NLp p) j := fun j hj => NLs_cg (fun i z => ⟨rfl, (CH i (by omega)).2⟩)
  refine ⟨h.kept.cg hg, ?_, ?_, ?_, ?_, ?_, ?_, ?_, ?_, ?_, ?_, ?_, ?_, ?_, ?_⟩
  · rw [en1]; exact h.fd
  · rw [eT]; exact l2
  · intro j hj
    rw [eT] at hj
    show S.CA (S.FC p + j) = sS g (S.FR (p + 1)) ((S.wf g).st p + 2) j
    rw [est, ← sS_cg hg kc j (by omega)]
    exact h.ca j hj
  · intro k hk
    rw [en1] at hk
    obtain ⟨d1, d2⟩ := h.dep k hk
    refine ⟨d1, ?_⟩
    show sq S.hf (S.dp p k * 32) 32 = sq g (S.FR p + 2 + k * 32) 32
    rw [← sq_congr (f := S.f) (g := g) 32 (S.FR p + 2 + k * 32) (S.FR p + 2 + k * 32) (fun i z => hg _ (by omega))]
    exact d2
  · rw [eT, en1]
    intro j hj
    have r := (AG j (by omega)).rs (CH j hj).1.W (Nat.le_trans (I.ndl hp) (by have := I.hP; omega)) (h.rs j hj)
    show rsR g (S.dp p) S.FC S.CA S.CF S.CL p (S.nd p) (S.FC p + j) (NFs g S.CA (S.FC p) (S.NFp p) j) (S.CA (S.FC p + j)) (S.CF (S.FC p + j))
    rw [← eNF j (by omega)]
    exact r
  · intro j hj
    rw [eT] at hj
    show S.CL (S.FC p + j) = NLs g S.CA (S.FC p) (S.NLp p) j
    rw [← eNL j (by omega)]
    exact h.cl j hj
  · rw [eT]
    show S.NFp (p + 1) = NFs g S.CA (S.FC p) (S.NFp p) (S.nT p)
    rw [← eNF _ (Nat.le_refl _)]; exact h.nf
  · rw [eT]
    show S.NLp (p + 1) = NLs g S.CA (S.FC p) (S.NLp p) (S.nT p)
    rw [← eNL _ (Nat.le_refl _)]; exact h.nl
  · rw [eT]
    show S.LOp (p + 1) = lcs g S.CA S.CF (S.FC p) (S.nT p) (S.LOp p)
    rw [h.lo]
    exact lcs_cg (fun i z => ⟨rfl, rfl, (CH i z).2⟩)
  · intro j hj e
    rw [eT] at hj
    have e : g (S.CA (S.FC p + j)) = 2 := e
    rw [← (CH j hj).2.1] at e
    have r := (h.li j hj e).cg (AG j (by omega)) e (CH j hj).1
    rw [en1]
    exact r
  · intro j hj e
    rw [eT] at hj
    have e : g (S.CA (S.FC p + j)) = 0 := e
    rw [← (CH j hj).2.1] at e
    show S.ad (NFs g S.CA (S.FC p) (S.NFp p) j) = nI (S.FC p + j)
    rw [← eNF j (by omega)]
    exact h.ad j hj e
  · intro k hk
    rw [en1] at hk
    rw [en1, eT]
    show ¬ nmXs g (S.nd p) S.CA (S.FC p) (S.nT p) (fun _ => 0) k = 0
    rw [← nmXs_cg hg (fun i z => ⟨rfl, (CH i z).1.W, (CH i z).1.kd⟩)]
    exact h.nm k hk
  · intro k hk
    show S.hf (p * 32 + k) = sh_outb (dg g (S.FR p) (S.FR (p + 1) - S.FR p)) k
    rw [h.hs k hk]
    exact sh_outb_congr (dg_congr (fun i z => hg _ (by omega))) hk
  · intro n hn
    rw [en1]
    exact h.ln n hn
theorem sInv.wf {S : Stk} (I : sInv S) {g : Nat → Int32} (hb : ∀ i, i < S.FR S.P → S.f i = g i) : sInv (S.wf g) := ⟨I.hP, I.fr0, I.fd0, I.fc0, I.nf0, I.nl0, I.lo0, fun _ z => I.wfp hb z, I.frP, I.nfP, I.nlP, I.loP, I.bh, I.up, I.sur, I.lz, I.lbz⟩
/-- the k-th ref of the j-th change of patch p, a call, names x -/
def ovK (S : Stk) (p j k x : Nat) : Prop := cnR S.f (S.dp p) S.FC p (S.nd p) (S.FC p + j) (S.CA (S.FC p + j) + 6 + 4 * k) x
def ovJ (S : Stk) (p j n x : Nat) : Prop := ∃ k, k < n ∧ ovK S p j k x
def ovN (S : Stk) (p n x : Nat) : Prop := ∃ j, j < n ∧ S.f (S.CA (S.FC p + j)) = 1 ∧ ovJ S p j (b8 (S.f (S.CA (S.FC p + j) + 5))) x
/-- patch p has a call over the naming x -/
def ovX (S : Stk) (p x : Nat) : Prop := ovN S p (S.nT p) x
/-- the set has a call over the naming x -/
def ovS (S : Stk) (mw : Nat → Int64) (n x : Nat) : Prop := ∃ p, p < n ∧ bt mw p = true ∧ ovX S p x
/-- A is v where Q holds, else as B -/
def setR (A B : Nat → Int32) (Q : Nat → Prop) (v : Int32) : Prop := ∀ x, (Q x → A x = v) ∧ (¬ Q x → A x = B x)
theorem setR.nil {A : Nat → Int32} {Q : Nat → Prop} {v : Int32} (h : ∀ x, ¬ Q x) : setR A A Q v := fun x => ⟨fun z => absurd z (h x), fun _ => rfl⟩
theorem setR.iff {A B : Nat → Int32} {Q Q' : Nat → Prop} {v : Int32} (h : setR A B Q v) (e : ∀ x, Q x ↔ Q' x) : setR A B Q' v := fun x => ⟨fun z => (h x).1 ((e x).mpr z), fun z => (h x).2 (fun y => z ((e x).mp y))⟩
theorem setR.upd {A B : Nat → Int32} {Q Q' : Nat → Prop} {v : Int32} {y : Nat} (h : setR A B Q v) (e : ∀ x, Q' x ↔ Q x ∨ x = y) : setR (upd A y v) B Q' v := fun x => by
  by_cases z : x = y
  · subst z
    rw [upd_eq]
    exact ⟨fun _ => rfl, fun w => absurd ((e x).mpr (Or.inr rfl)) w⟩
  · rw [upd_ne _ z]
    refine ⟨fun w => (h x).1 (((e x).mp w).resolve_right z), fun w => (h x).2 (fun q => w ((e x).mpr (Or.inl q)))⟩
theorem setR.trans {A B C : Nat → Int32} {Q Q' : Nat → Prop} {v : Int32} (h : setR A B Q v) (h' : setR B C Q' v) : setR A C (fun x => Q' x ∨ Q x) v := fun x => by
  by_cases z : Q x
  · exact ⟨fun _ => (h x).1 z, fun w => absurd (Or.inr z) w⟩
  · rw [(h x).2 z]
    exact ⟨fun w => (h' x).1 (w.resolve_right z), fun w => (h' x).2 (fun q => w (Or.inl q))⟩
theorem ovJ_step {S : Stk} {p j k y : Nat} (hnd : S.nd p ≤ 2048) (hy : ovK S p j k y) (x : Nat) : ovJ S p j (k + 1) x ↔ ovJ S p j k x ∨ x = y := by
  constructor
  · rintro ⟨q, h1, h2⟩
    by_cases e : q = k
    · subst e; exact Or.inr (cnR.uniq hnd h2 hy)
    · exact Or.inl ⟨q, by omega, h2⟩
  · rintro (⟨q, h1, h2⟩ | rfl)
    · exact ⟨q, by omega, h2⟩
    · exact ⟨k, by omega, hy⟩
theorem ovN_no {S : Stk} {p j : Nat} (h : ¬ S.f (S.CA (S.FC p + j)) = 1) (x : Nat) : ovN S p (j + 1) x ↔ ovN S p j x := by
  constructor
  · rintro ⟨q, h1, h2, h3⟩
    by_cases e : q = j
    · subst e; exact absurd h2 h
    · exact ⟨q, by omega, h2, h3⟩
  · rintro ⟨q, h1, h2, h3⟩
    exact ⟨q, by omega, h2, h3⟩
theorem ovN_yes {S : Stk} {p j : Nat} (h : S.f (S.CA (S.FC p + j)) = 1) (x : Nat) : ovN S p (j + 1) x ↔ ovN S p j x ∨ ovJ S p j (b8 (S.f (S.CA (S.FC p + j) + 5))) x := by
  constructor
  · rintro ⟨q, h1, h2, h3⟩
    by_cases e : q = j
    · subst e; exact Or.inr h3
    · exact Or.inl ⟨q, by omega, h2, h3⟩
  · rintro (⟨q, h1, h2, h3⟩ | h3)
    · exact ⟨q, by omega, h2, h3⟩
    · exact ⟨j, by omega, h, h3⟩
/-- what a call's ref names -/
theorem sInv.ref {S : Stk} (I : sInv S) {p j k : Nat} (hp : p < S.P) (hj : j < S.nT p) (h1 : S.f (S.CA (S.FC p + j)) = 1) (hk : k < b8 (S.f (S.CA (S.FC p + j) + 5))) : ∃ x, ovK S p j k x ∧ x < S.FC p + j ∧ isNm S.f (S.CA x) ∧ S.CF x = S.CF (S.FC p + j) := by
  have h := I.pi p hp
  obtain ⟨x, z1, z2, z3, -⟩ := (rsR_1 h1 (h.rs j hj)).2 k hk
  have hL : ∀ q, q < p → S.FC (q + 1) ≤ S.FC p + j := fun q z => Nat.le_trans (I.fcm (i := q + 1) (k := p) (by omega) (by omega)) (by omega)
  exact ⟨x, z1, cnR.lt (fun q z => (h.dep q z).1) hL z1, z2, z3⟩
theorem ovN_step {S : Stk} {p j k mm : Nat} (hm : (S.f (S.CA (S.FC p + j)) = 1 ∧ mm = b8 (S.f (S.CA (S.FC p + j) + 5))) ∨ (¬ S.f (S.CA (S.FC p + j)) = 1 ∧ mm = 0)) (hk : k = mm) (x : Nat) : (ovN S p j x ∨ ovJ S p j k x) ↔ ovN S p (j + 1) x := by
  rcases hm with ⟨z1, z2⟩ | ⟨z1, z2⟩
  · rw [ovN_yes z1 x, hk, z2]
  · rw [ovN_no z1 x, hk, z2]
    exact ⟨fun z => z.elim id (fun ⟨q, a, _⟩ => absurd a (Nat.not_lt_zero _)), Or.inl⟩
theorem ovJ_0 {S : Stk} {p j : Nat} (x : Nat) : ovN S p j x ↔ (ovN S p j x ∨ ovJ S p j 0 x) := ⟨Or.inl, fun z => z.elim id (fun ⟨q, a, _⟩ => absurd a (Nat.not_lt_zero _))⟩
theorem ovS_0 {S : Stk} {mw : Nat → Int64} (x : Nat) : ¬ ovS S mw 0 x := fun ⟨q, a, _⟩ => absurd a (Nat.not_lt_zero _)
theorem ovS_no {S : Stk} {mw : Nat → Int64} {n : Nat} (h : ¬ bt mw n = true) (x : Nat) : ovS S mw n x ↔ ovS S mw (n + 1) x := by
  constructor
  · rintro ⟨p, h1, h2, h3⟩
    exact ⟨p, by omega, h2, h3⟩
  · rintro ⟨p, h1, h2, h3⟩
    by_cases e : p = n
    · subst e; exact absurd h2 h
    · exact ⟨p, by omega, h2, h3⟩
theorem ovS_yes {S : Stk} {mw : Nat → Int64} {n : Nat} (h : bt mw n = true) (x : Nat) : (ovS S mw n x ∨ ovX S n x) ↔ ovS S mw (n + 1) x := by
  constructor
  · rintro (⟨p, h1, h2, h3⟩ | h3)
    · exact ⟨p, by omega, h2, h3⟩
    · exact ⟨n, by omega, h, h3⟩
  · rintro ⟨p, h1, h2, h3⟩
    by_cases e : p = n
    · subst e; exact Or.inr h3
    · exact Or.inl ⟨p, by omega, h2, h3⟩
theorem sInv.bounds {S : Stk} (I : sInv S) {p : Nat} (hp : p < S.P) : S.FC p + S.nT p ≤ S.FC S.P ∧ S.FC S.P ≤ 28571 ∧ S.FD p + S.nd p ≤ 8400 ∧ S.nd p ≤ 500 ∧ S.FR (p + 1) ≤ 200000 := by
  have h := I.pi p hp
  have a1 := I.fcm (i := p + 1) (k := S.P) (by omega) (Nat.le_refl _)
  have a2 := I.fdm (i := p + 1) (k := S.P) (by omega) (Nat.le_refl _)
  have a3 := I.frm (i := p + 1) (k := S.P) (by omega) (Nat.le_refl _)
  have a4 := I.room (Nat.le_refl _)
  have a5 := I.frP
  have a6 := I.ndl hp
  have a7 := I.hP
  rw [h.fc] at a1
  rw [h.fd] at a2
  omega

