/-! 99zzs.closed.lean.txt -/
/-- flags that hold the bits of a set -/
def fwB (mw : Nat → Int64) (q : Nat) : Int32 := if bt mw q = true then 1 else 0
theorem fwB_fb (mw : Nat → Int64) (P : Nat) : fb (fwB mw) mw P := fun q _ => by
  unfold fwB
  by_cases h : bt mw q = true
  · rw [if_pos h]; exact flg.set h
  · rw [if_neg h]; exact Or.inr ⟨rfl, h⟩
theorem sInv.inr {S : Stk} (I : sInv S) {c : Nat} (hc : c < S.FC S.P) (h2 : S.f (S.CA c) = 2) : inR S.f (S.dp (S.pc c)) S.FC S.CA S.CF (S.pc c) (S.nd (S.pc c)) c (S.CA c) (S.CF c) := by
  obtain ⟨hp, j, hj, e⟩ := I.pcs hc
  have h4 := (I.pi _ hp).rs j hj
  rw [← e] at h4
  rcases h4 with h | h | h | h | h
  · rw [h2] at h; exact absurd h.1 (by decide)
  · rw [h2] at h; exact absurd h.1 (by decide)
  · exact h.2
  · rw [h2] at h; exact absurd h.1 (by decide)
  · rw [h2] at h; exact absurd h.1 (by decide)
/-- the neighbours of a line of a closed set's graph are in it -/
theorem clo.gr {S : Stk} {mw : Nat → Int64} (C : clo S mw) (I : sInv S) (y : Nat) : grOK S (rowL S mw y) := by
  have F := fwB_fb mw S.P
  have hN := I.nlP
  intro x hx
  obtain ⟨r1, r2, r3⟩ := (mrp.row I F).mp hx
  obtain ⟨g1, g2, g3, g4⟩ := I.lno r1
  have lx := I.lnf g1 g2 (show x - S.CL (lcS S x) < nLn S (lcS S x) by omega)
  rw [show S.CL (lcS S x) + (x - S.CL (lcS S x)) = x by omega] at lx
  obtain ⟨l1, l2, l3, l4, l5, l6⟩ := lx
  have hin := I.inr g1 g2
  refine ⟨r1, ⟨x - S.CL (lcS S x), l3, by omega, fun hp => ⟨by omega, ?_⟩⟩, ?_, ?_⟩
  · have lz := I.lnf g1 g2 (show x - 1 - S.CL (lcS S x) < nLn S (lcS S x) by omega)
    rw [show S.CL (lcS S x) + (x - 1 - S.CL (lcS S x)) = x - 1 by omega] at lz
    exact (mrp.row I F).mpr ⟨lz.2.2.2.1, by rw [lz.2.1]; exact r2, by rw [lz.2.1]; exact r3⟩
  · rcases C.up I F g1 r3 hin.2.1 l5 with z | ⟨q, z1, z2⟩
    · exact Or.inl z
    · rw [r2] at z2
      exact Or.inr ⟨q, (mrp.row I F).mpr z2, z1⟩
  · rcases C.up I F g1 r3 hin.2.2 l6 with z | ⟨q, z1, z2⟩
    · exact Or.inl z
    · rw [r2] at z2
      exact Or.inr ⟨q, (mrp.row I F).mpr z2, z1⟩
/-- what a closed set's orders and deletes name is in its graph -/
theorem clo.rf {S : Stk} {mw : Nat → Int64} (C : clo S mw) (I : sInv S) (y : Nat) {p : Nat} (hp : p < S.P) (hb : bt mw p = true) : rfOK S y p (rowL S mw y) := by
  have F := fwB_fb mw S.P
  intro j hj
  have hc : S.FC p + j < S.FC S.P := by have := (I.bounds hp).1; omega
  have h4 := (I.pi p hp).rs j hj
  have key : ∀ k l, flR S.f (S.dp p) S.FC S.CA S.CF p (S.nd p) (S.FC p + j) k (S.CF (S.FC p + j)) → S.CF (S.FC p + j) = y → lrR S p (S.FC p + j) k l → l ∈ rowL S mw y := fun k l h1 h2 ⟨x, h3, e⟩ => by
    obtain ⟨z, a1, a2, a3, a4, a5, a6, a7⟩ := I.lnr hp hj h1
    have ez : z = x := cnR.uniq (I.nd5 hp) a1 h3
    rw [ez] at a2 a3 a4 a5 a6 a7
    rw [← e] at a6 a7
    refine (mrp.row I F).mpr ⟨a7, by rw [a6, a5]; exact h2, ?_⟩
    rw [a6]
    exact (F.one (I.pcs a2).1).mpr (C.ref I hp hj hb h3)
  refine ⟨fun l m h => ?_, fun l h => ?_⟩
  · obtain ⟨k4, ey, q1, q2⟩ := h
    rcases h4 with h | h | h | h | h
    · rw [k4] at h; exact absurd h.1 (by decide)
    · rw [k4] at h; exact absurd h.1 (by decide)
    · rw [k4] at h; exact absurd h.1 (by decide)
    · rw [k4] at h; exact absurd h.1 (by decide)
    · exact ⟨key _ _ h.2.1 ey q1, key _ _ h.2.2.1 ey q2⟩
  · obtain ⟨k3, ey, q1⟩ := h
    rcases h4 with h | h | h | h | h
    · rw [k3] at h; exact absurd h.1 (by decide)
    · rw [k3] at h; exact absurd h.1 (by decide)
    · rw [k3] at h; exact absurd h.1 (by decide)
    · exact key _ _ h.2 ey q1
    · rw [k3] at h; exact absurd h.1 (by decide)

