/-! 99zzv.lengths.lean.txt -/
/-- how long a line is, and where it stands -/
def tsS (S : Stk) (x : Nat) : Nat := min 500 (S.ll x).toNatClampNeg
def taS (S : Stk) (x : Nat) : Nat := (S.la x).toNatClampNeg
theorem sInv.lnl {S : Stk} (I : sInv S) {c q : Nat} (hc : c < S.FC S.P) (h2 : S.f (S.CA c) = 2) (hq : q < nLn S c) : S.la (S.CL c + q) = nI (lnP S.f (lnAt S.f (S.CA c) + 2) q + 2) ∧ S.ll (S.CL c + q) = nI (tw S.f (lnP S.f (lnAt S.f (S.CA c) + 2) q)) ∧ 1 ≤ tw S.f (lnP S.f (lnAt S.f (S.CA c) + 2) q) ∧ tw S.f (lnP S.f (lnAt S.f (S.CA c) + 2) q) ≤ 500 ∧ lnP S.f (lnAt S.f (S.CA c) + 2) q + 2 + tw S.f (lnP S.f (lnAt S.f (S.CA c) + 2) q) ≤ S.FR S.P := by
  obtain ⟨p, j, h1, hj, h3⟩ := I.own (Nat.le_refl _) hc
  have h4 := (I.pi p h1).li j hj (by rw [← h3]; exact h2)
  rw [← h3] at h4
  obtain ⟨g1, g2, _⟩ := h4 q hq
  have h5 := I.chg h1 hj
  rw [← h3] at h5
  have h6 := I.frm (i := p + 1) (k := S.P) (by omega) (Nat.le_refl _)
  rcases h5 with h | h | h | h | h
  · rw [h2] at h; exact absurd h.1 (by decide)
  · rw [h2] at h; exact absurd h.1 (by decide)
  · obtain ⟨q1, q2, k1, k2, k3, k4, k5⟩ := h.2
    have e : lnAt S.f (S.CA c) = q2 := by
      unfold lnAt
      rw [k1.end, k2.end]
    have hq' : q < tw S.f q2 := by unfold nLn at hq; rw [e] at hq; exact hq
    obtain ⟨m1, m2, m3, m4, _⟩ := k5.at q hq'
    rw [e] at g1 g2 ⊢
    exact ⟨g1, g2, m2, m3, by omega⟩
  · rw [h2] at h; exact absurd h.1 (by decide)
  · rw [h2] at h; exact absurd h.1 (by decide)
theorem sInv.lnt {S : Stk} (I : sInv S) {l : Nat} (hl : l < S.NLp S.P) : S.ll l = nI (tsS S l) ∧ 1 ≤ tsS S l ∧ tsS S l ≤ 500 ∧ S.la l = nI (taS S l) ∧ taS S l + tsS S l ≤ S.FR S.P := by
  obtain ⟨g1, g2, g3, g4⟩ := I.lno hl
  have h := I.lnl g1 g2 (show l - S.CL (lcS S l) < nLn S (lcS S l) by omega)
  rw [show S.CL (lcS S l) + (l - S.CL (lcS S l)) = l by omega] at h
  obtain ⟨h1, h2, h3, h4, h5⟩ := h
  have hF := I.frP
  have e1 : tsS S l = tw S.f (lnP S.f (lnAt S.f (S.CA (lcS S l)) + 2) (l - S.CL (lcS S l))) := by
    unfold tsS
    rw [h2, nI_clamp (by omega)]; omega
  have e2 : taS S l = lnP S.f (lnAt S.f (S.CA (lcS S l)) + 2) (l - S.CL (lcS S l)) + 2 := by
    unfold taS
    rw [h1, nI_clamp (by omega)]
  rw [e1, e2]
  exact ⟨h2, h3, h4, h1, h5⟩
/-- what must hold so that the graph of a closed set can be laid -/
theorem clo.grS {S : Stk} {Z : StkA} {mw : Nat → Int64} (C : clo S mw) (I : sInv S) (R : rep S Z) (y : Nat) : grS S Z mw y (fun x => S.pc (lcS S x)) (tsS S) := by
  have F := fwB_fb mw S.P
  have hF := I.fcP
  have hP := I.hP
  refine ⟨C.gr I y, fun p hp hb => C.rf I y hp hb, fun x hx => ?_, fun x hx => ?_, fun x => ?_⟩
  · have hx1 := ((mrp.row I F).mp hx).1
    obtain ⟨g1, g2, g3, g4⟩ := I.lno hx1
    have lx := I.lnf g1 g2 (show x - S.CL (lcS S x) < nLn S (lcS S x) by omega)
    rw [show S.CL (lcS S x) + (x - S.CL (lcS S x)) = x by omega] at lx
    obtain ⟨hp, j, hj, e⟩ := I.pcs g1
    refine ⟨lcS S x, lx.1, by omega, ?_, by show S.pc (lcS S x) < 500; omega⟩
    have := R.2.2.2.2.2.2.2.1 _ j hp hj
    rw [← e] at this
    exact this
  · exact (I.lnt ((mrp.row I F).mp hx).1).1
  · unfold tsS
    omega
/-- the reference's rows of a line -/
theorem mrp.lq {S : Stk} {Z : Mda} {G : Gr} (M : mrp S Z G) (I : sInv S) : ∀ l, l < S.NLp S.P → Z.ts l = nI (tsS S l) ∧ tsS S l ≤ 500 ∧ Z.ta l = nI (taS S l) ∧ taS S l + tsS S l ≤ 200000 ∧ Z.fc (S.pc (lcS S l)) = nI (S.FC (S.pc (lcS S l))) ∧ S.FC (S.pc (lcS S l)) ≤ lcS S l ∧ Z.la (lcS S l) = nI (S.CL (lcS S l)) ∧ S.CL (lcS S l) ≤ l ∧ lcS S l < S.FC S.P := fun l hl => by
  obtain ⟨g1, g2, g3, g4⟩ := I.lno hl
  obtain ⟨t1, t2, t3, t4, t5⟩ := I.lnt hl
  have hFr := I.frP
  have hN := I.nlP
  obtain ⟨p, j, h1, hj, h3, hpc, h5, o, h6⟩ := M.ch I g1
  obtain ⟨k1, k2, k3, k4, k5⟩ := h6.2.2.2.2.1 g2
  obtain ⟨z1, z2, z3⟩ := k5 (l - S.CL (lcS S l)) (by unfold nLn at g4; omega) (by omega)
  rw [show S.CL (lcS S l) + (l - S.CL (lcS S l)) = l by omega] at z2 z3
  have hh := I.lnl g1 g2 (show l - S.CL (lcS S l) < nLn S (lcS S l) by omega)
  rw [show S.CL (lcS S l) + (l - S.CL (lcS S l)) = l by omega] at hh
  refine ⟨?_, t3, ?_, by omega, ?_, ?_, k1, g3, g1⟩
  · rw [← t1, z3]; exact hh.2.1.symm
  · rw [← t4, z2]; exact hh.1.symm
  · exact (M.2.2.1 _ (Nat.le_of_lt (I.pcs g1).1)).2
  · obtain ⟨_, j', _, e⟩ := I.pcs g1
    omega

