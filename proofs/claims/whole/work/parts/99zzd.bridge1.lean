/-! 99zzd.bridge1.lean.txt -/
/-- the patch of a change -/
noncomputable def Stk.pc (S : Stk) (c : Nat) : Nat := Classical.epsilon (fun p => p < S.P ∧ ∃ j, j < S.nT p ∧ c = S.FC p + j)
theorem sInv.pcs {S : Stk} (I : sInv S) {c : Nat} (hc : c < S.FC S.P) : S.pc c < S.P ∧ ∃ j, j < S.nT (S.pc c) ∧ c = S.FC (S.pc c) + j := by
  have h : ∃ p, p < S.P ∧ ∃ j, j < S.nT p ∧ c = S.FC p + j := by
    obtain ⟨p, j, h1, h2, h3⟩ := I.own (Nat.le_refl _) hc
    exact ⟨p, h1, j, h2, h3⟩
  exact Classical.epsilon_spec h
theorem sInv.pca {S : Stk} (I : sInv S) {p j : Nat} (hp : p < S.P) (hj : j < S.nT p) : S.pc (S.FC p + j) = p := by
  have hc : S.FC p + j < S.FC S.P := by have := (I.bounds hp).1; omega
  obtain ⟨h1, k, h2, h3⟩ := I.pcs hc
  exact (I.own1 hp h1 hj h2 h3).1.symm
theorem sInv.fcP {S : Stk} (I : sInv S) : S.FC S.P ≤ 28571 := by
  have h1 := I.room (Nat.le_refl S.P)
  have h2 := I.frP
  omega
/-- the kind of a change -/
def kdS (S : Stk) (c : Nat) : Nat := (S.f (S.CA c)).toNatClampNeg
theorem kd_k {S : Stk} {c : Nat} (k : Nat) (hk : k ≤ 4) (h : S.f (S.CA c) = nI k) : kdS S c = k := by
  unfold kdS
  rw [h]; exact nI_clamp (by omega)
theorem sInv.kd {S : Stk} (I : sInv S) {c : Nat} (hc : c < S.FC S.P) : S.f (S.CA c) = nI (kdS S c) ∧ kdS S c ≤ 4 := by
  obtain ⟨p, j, h1, h2, h3⟩ := I.own (Nat.le_refl _) hc
  have h4 := (I.pi p h1).rs j h2
  rw [← h3] at h4
  have key : ∀ k, k ≤ 4 → S.f (S.CA c) = nI k → S.f (S.CA c) = nI (kdS S c) ∧ kdS S c ≤ 4 := fun k hk e => by
    rw [kd_k k hk e]; exact ⟨e, hk⟩
  rcases h4 with h | h | h | h | h
  · exact key 0 (by omega) h.1
  · exact key 1 (by omega) h.1
  · exact key 2 (by omega) h.1
  · exact key 3 (by omega) h.1
  · exact key 4 (by omega) h.1
theorem sInv.kdi {S : Stk} (I : sInv S) {c k : Nat} (hc : c < S.FC S.P) (hk : k ≤ 4) : kdS S c = k ↔ S.f (S.CA c) = nI k := by
  have h := I.kd hc
  constructor
  · intro e; rw [← e]; exact h.1
  · exact kd_k k hk
/-- how many namings a call is over; where their row begins; which they are -/
def ocS (S : Stk) (c : Nat) : Nat := b8 (S.f (S.CA c + 5))
def oaZ (Z : Mda) (c : Nat) : Nat := (Z.oa c).toNatClampNeg
def oxZ (Z : Mda) (c i : Nat) : Nat := (Z.ov (oaZ Z c + i)).toNatClampNeg
/-- how long a name is, and where it stands -/
def nsS (S : Stk) (c : Nat) : Nat := b8 (S.f (nmAt S.f (S.CA c)))
def ntS (S : Stk) (c : Nat) : Nat := nmAt S.f (S.CA c) + 1
theorem mrp.ch {S : Stk} {Z : Mda} {G : Gr} (M : mrp S Z G) (I : sInv S) {c : Nat} (hc : c < S.FC S.P) : ∃ p j, p < S.P ∧ j < S.nT p ∧ c = S.FC p + j ∧ S.pc c = p ∧ Z.of c = nI p ∧ ∃ o, chZ S.f (S.dp p) S.FC S.CA S.CL p (S.nd p) c (NFs S.f S.CA (S.FC p) (S.NFp p) j) o Z := by
  obtain ⟨p, j, h1, h2, h3⟩ := I.own (Nat.le_refl _) hc
  obtain ⟨h4, h5⟩ := M.2.2.2.2.2.1 p j h1 h2
  refine ⟨p, j, h1, h2, h3, ?_, ?_, ?_⟩
  · rw [h3]; exact I.pca h1 h2
  · rw [h3]; exact h4
  · rw [h3]; exact h5
theorem sInv.cnl {S : Stk} (I : sInv S) {p j k x : Nat} (hp : p < S.P) (hj : j < S.nT p) (h : cnR S.f (S.dp p) S.FC p (S.nd p) (S.FC p + j) k x) : x < S.FC p + j := by
  refine cnR.lt (fun i hi => ((I.pi p hp).dep i hi).1) (fun i hi => ?_) h
  have := I.fcm (i := i + 1) (k := p) (by omega) (by omega)
  omega
theorem mrp.over {S : Stk} {Z : Mda} {G : Gr} (M : mrp S Z G) (I : sInv S) {c : Nat} (hc : c < S.FC S.P) (hk : S.f (S.CA c) = 1) : Z.oc c = nI (ocS S c) ∧ ocS S c ≤ 255 ∧ Z.oa c = nI (oaZ Z c) ∧ oaZ Z c + ocS S c ≤ 70000 ∧ ∀ i, i < ocS S c → Z.ov (oaZ Z c + i) = nI (oxZ Z c i) ∧ oxZ Z c i < 38000 ∧ cnR S.f (S.dp (S.pc c)) S.FC (S.pc c) (S.nd (S.pc c)) c (S.CA c + 6 + 4 * i) (oxZ Z c i) := by
  obtain ⟨p, j, h1, h2, h3, h4, h5, o, h6⟩ := M.ch I hc
  obtain ⟨g1, g2, g3, g4⟩ := h6.2.2.1 hk
  have hot := M.2.2.2.2.2.2.2.2
  have hfr := I.frP
  have h8 := b8_lt (S.f (S.CA c + 5))
  have e1 : oaZ Z c = o := by
    unfold oaZ
    rw [g2]; exact nI_clamp (by omega)
  refine ⟨g1, by unfold ocS; omega, by rw [e1]; exact g2, by rw [e1]; unfold ocS; omega, fun i hi => ?_⟩
  obtain ⟨z, q1, q2⟩ := g4 i hi
  have hz : z < c := by
    rw [h3] at q1 ⊢
    exact I.cnl h1 h2 q1
  have hF := I.fcP
  have e2 : oxZ Z c i = z := by
    unfold oxZ
    rw [e1, q2]; exact nI_clamp (by omega)
  rw [e2, e1, h4]
  exact ⟨q2, by omega, q1⟩
theorem mrp.mv {S : Stk} {Z : Mda} {G : Gr} (M : mrp S Z G) (I : sInv S) : mvR (S.FC S.P) S.pc (kdS S) S.CF (ocS S) (oaZ Z) (oxZ Z) Z.of Z.so Z.fo Z.oc Z.oa Z.ov := by
  have hF := I.fcP
  have hP := I.hP
  obtain ⟨r1, r2, r3, r4, r5⟩ := M.2.2.2.2.2.2.1
  refine ⟨by omega, fun x hx => ?_, fun x hx hk => ?_, fun x hx hk => ?_⟩
  · obtain ⟨p, j, h1, h2, h3, h4, h5, _⟩ := M.ch I hx
    have h6 := I.kd hx
    exact ⟨by rw [h4]; exact h5, by omega, by rw [r1 x hx]; exact h6.1, h6.2⟩
  · have h6 := I.kd hx
    refine ⟨r2 x hx ?_, (r5 x hx).1⟩
    rcases (show kdS S x = 0 ∨ kdS S x = 1 by omega) with e | e
    · rw [e] at h6; exact Or.inl h6.1
    · rw [e] at h6; exact Or.inr (Or.inl h6.1)
  · obtain ⟨g1, g2, g3, g4, g5⟩ := M.over I hx ((I.kdi hx (by decide)).mp hk)
    exact ⟨g1, g2, g3, g4, fun i hi => ⟨(g5 i hi).1, (g5 i hi).2.1⟩⟩
theorem mrp.dist {S : Stk} {Z : Mda} {G : Gr} (M : mrp S Z G) (I : sInv S) : ∀ p q, p < S.P → q < S.P → sq (G.H p) 0 32 = sq (G.H q) 0 32 → p = q := by
  intro p q hp hq e
  have h := M.2.2.2.2.1.2.2
  have e1 : ∀ p, p < S.P → sq (G.H p) 0 32 = sq S.hf (p * 32) 32 := fun p hp => sq_congr 32 _ _ (fun k hk => by rw [Nat.zero_add]; exact h p k hp hk)
  rw [e1 p hp, e1 q hq] at e
  obtain ⟨i, hi, ei⟩ := I.sur p hp
  obtain ⟨k, hk, ek⟩ := I.sur q hq
  rcases Nat.lt_trichotomy i k with z | z | z
  · have := I.up i k z hk
    rw [ei, ek, e] at this
    exact absurd this (List.lt_irrefl _)
  · rw [← ei, ← ek, z]
  · have := I.up k i z hi
    rw [ei, ek, e] at this
    exact absurd this (List.lt_irrefl _)
theorem mrp.pcl {S : Stk} {Z : Mda} {G : Gr} (_M : mrp S Z G) (I : sInv S) : ∀ c, c < S.FC S.P → S.pc c < S.P := fun _ hc => (I.pcs hc).1
/-- where a name stands -/
theorem sInv.nmw {S : Stk} (I : sInv S) {c : Nat} (hc : c < S.FC S.P) (hk : S.f (S.CA c) = 0 ∨ S.f (S.CA c) = 1) : nsS S c ≤ 64 ∧ S.f (nmAt S.f (S.CA c)) = nI (nsS S c) ∧ ntS S c + nsS S c ≤ S.FR S.P := by
  obtain ⟨p, j, h1, h2, h3⟩ := I.own (Nat.le_refl _) hc
  have h4 := I.chg h1 h2
  rw [← h3] at h4
  have h5 := I.frm (i := p + 1) (k := S.P) (by omega) (Nat.le_refl _)
  have key : ∀ (m : Int32) (b : Nat), nmR S.f (S.FR (p + 1)) m (nmAt S.f (S.CA c)) b → nsS S c ≤ 64 ∧ S.f (nmAt S.f (S.CA c)) = nI (nsS S c) ∧ ntS S c + nsS S c ≤ S.FR S.P := fun m b hn => by
    obtain ⟨g1, n, g2, g3, g4, g5, g6, g7⟩ := hn
    have e : nsS S c = n := by
      unfold nsS
      rw [g3]; exact b8_nIs (by omega)
    rw [e]
    exact ⟨g2, g3, by unfold ntS; omega⟩
  rcases h4 with h | h | h | h | h
  · have e : nmAt S.f (S.CA c) = S.CA c + 5 := if_pos h.1
    exact key 1 _ (by rw [e]; exact h.2)
  · have e : nmAt S.f (S.CA c) = S.CA c + 6 + 4 * b8 (S.f (S.CA c + 5)) := if_neg (by rw [h.1]; decide)
    exact key 0 _ (by rw [e]; exact h.2.2.2)
  · rcases hk with z | z <;> (rw [z] at h; exact absurd h.1 (by decide))
  · rcases hk with z | z <;> (rw [z] at h; exact absurd h.1 (by decide))
  · rcases hk with z | z <;> (rw [z] at h; exact absurd h.1 (by decide))
theorem sInv.k01 {S : Stk} (I : sInv S) {c : Nat} (hc : c < S.FC S.P) (hk : kdS S c ≤ 1) : S.f (S.CA c) = 0 ∨ S.f (S.CA c) = 1 := by
  have h6 := I.kd hc
  rcases (show kdS S c = 0 ∨ kdS S c = 1 by omega) with e | e
  · rw [e] at h6; exact Or.inl h6.1
  · rw [e] at h6; exact Or.inr h6.1
theorem mrp.ns {S : Stk} {Z : Mda} {G : Gr} (M : mrp S Z G) (I : sInv S) : ∀ c, c < S.FC S.P → kdS S c ≤ 1 → Z.ns c = nI (nsS S c) ∧ nsS S c ≤ 64 := fun c hc hk => by
  obtain ⟨p, j, h1, h2, h3, h4, h5, o, h6⟩ := M.ch I hc
  exact ⟨(h6.1 (I.k01 hc hk)).1, (I.nmw hc (I.k01 hc hk)).1⟩
theorem mrp.nt {S : Stk} {Z : Mda} {G : Gr} (M : mrp S Z G) (I : sInv S) : ∀ c, c < S.FC S.P → kdS S c ≤ 1 → Z.nt c = nI (ntS S c) ∧ ntS S c + nsS S c ≤ 200000 := fun c hc hk => by
  obtain ⟨p, j, h1, h2, h3, h4, h5, o, h6⟩ := M.ch I hc
  have h7 := (I.nmw hc (I.k01 hc hk)).2.2
  have h8 := I.frP
  exact ⟨(h6.1 (I.k01 hc hk)).2, by omega⟩

