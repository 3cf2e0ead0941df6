section
/-! 99zzd.bridge1.lean.txt -/
/-- the patch of a change -/
noncomputable def Stk.pc (S : Stk) (c : Nat) : Nat := Classical.epsilon (fun p => p < S.P ∧ ∃ j, j < S.nT p ∧ c = S.FC p + j)
theorem sInv.pcs {S : Stk} (I : sInv S) {c : Nat} (hc : c < S.FC S.P) : S.pc c < S.P ∧ ∃ j, j < S.nT (S.pc c) ∧ c = S.FC (S.pc c) + j := by
  have h : ∃ p, p < S.P ∧ ∃ j, j < S.nT p ∧ c = S.FC p + j := by
    obtain ⟨p, j, h1, h2, h3⟩ := I.own (Nat.le_refl _) hc
    exact ⟨p, h1, j, h2, h3⟩
  exact Classical.epsilon_spec h
theorem sInv.pca {S : Stk} (I : sInv S) {p j : Nat} (hp : p < S.P) (hj : j < S.nT p) : S.pc (S.FC p + j) = p := by
  have hc : S.FC p + j < S.FC S.P := by have := (I.bounds hp).1; omega
  obtain ⟨h1, k, h2, h3⟩ := I.pcs hc
  exact (I.own1 hp h1 hj h2 h3).1.symm
theorem sInv.fcP {S : Stk} (I : sInv S) : S.FC S.P ≤ 28571 := by
  have h1 := I.room (Nat.le_refl S.P)
  have h2 := I.frP
  omega
/-- the kind of a change -/
def kdS (S : Stk) (c : Nat) : Nat := (S.f (S.CA c)).toNatClampNeg
theorem kd_k {S : Stk} {c : Nat} (k : Nat) (hk : k ≤ 4) (h : S.f (S.CA c) = nI k) : kdS S c = k := by
  unfold kdS
  rw [h]; exact nI_clamp (by omega)
theorem sInv.kd {S : Stk} (I : sInv S) {c : Nat} (hc : c < S.FC S.P) : S.f (S.CA c) = nI (kdS S c) ∧ kdS S c ≤ 4 := by
  obtain ⟨p, j, h1, h2, h3⟩ := I.own (Nat.le_refl _) hc
  have h4 := (I.pi p h1).rs j h2
  rw [← h3] at h4
  have key : ∀ k, k ≤ 4 → S.f (S.CA c) = nI k → S.f (S.CA c) = nI (kdS S c) ∧ kdS S c ≤ 4 := fun k hk e => by
    rw [kd_k k hk e]; exact ⟨e, hk⟩
  rcases h4 with h | h | h | h | h
  · exact key 0 (by omega) h.1
  · exact key 1 (by omega) h.1
  · exact key 2 (by omega) h.1
  · exact key 3 (by omega) h.1
  · exact key 4 (by omega) h.1
theorem sInv.kdi {S : Stk} (I : sInv S) {c k : Nat} (hc : c < S.FC S.P) (hk : k ≤ 4) : kdS S c = k ↔ S.f (S.CA c) = nI k := by
  have h := I.kd hc
  constructor
  · intro e; rw [← e]; exact h.1
  · exact kd_k k hk
/-- how many namings a call is over; where their row begins; which they are -/
def ocS (S : Stk) (c : Nat) : Nat := b8 (S.f (S.CA c + 5))
def oaZ (Z : Mda) (c : Nat) : Nat := (Z.oa c).toNatClampNeg
def oxZ (Z : Mda) (c i : Nat) : Nat := (Z.ov (oaZ Z c + i)).toNatClampNeg
/-- how long a name is, and where it stands -/
def nsS (S : Stk) (c : Nat) : Nat := b8 (S.f (nmAt S.f (S.CA c)))
def ntS (S : Stk) (c : Nat) : Nat := nmAt S.f (S.CA c) + 1
theorem mrp.ch {S : Stk} {Z : Mda} {G : Gr} (M : mrp S Z G) (I : sInv S) {c : Nat} (hc : c < S.FC S.P) : ∃ p j, p < S.P ∧ j < S.nT p ∧ c = S.FC p + j ∧ S.pc c = p ∧ Z.of c = nI p ∧ ∃ o, chZ S.f (S.dp p) S.FC S.CA S.CL p (S.nd p) c (NFs S.f S.CA (S.FC p) (S.NFp p) j) o Z := by
  obtain ⟨p, j, h1, h2, h3⟩ := I.own (Nat.le_refl _) hc
  obtain ⟨h4, h5⟩ := M.2.2.2.2.2.1 p j h1 h2
  refine ⟨p, j, h1, h2, h3, ?_, ?_, ?_⟩
  · rw [h3]; exact I.pca h1 h2
  · rw [h3]; exact h4
  · rw [h3]; exact h5
theorem sInv.cnl {S : Stk} (I : sInv S) {p j k x : Nat} (hp : p < S.P) (hj : j < S.nT p) (h : cnR S.f (S.dp p) S.FC p (S.nd p) (S.FC p + j) k x) : x < S.FC p + j := by
  refine cnR.lt (fun i hi => ((I.pi p hp).dep i hi).1) (fun i hi => ?_) h
  have := I.fcm (i := i + 1) (k := p) (by omega) (by omega)
  omega
theorem mrp.over {S : Stk} {Z : Mda} {G : Gr} (M : mrp S Z G) (I : sInv S) {c : Nat} (hc : c < S.FC S.P) (hk : S.f (S.CA c) = 1) : Z.oc c = nI (ocS S c) ∧ ocS S c ≤ 255 ∧ Z.oa c = nI (oaZ Z c) ∧ oaZ Z c + ocS S c ≤ 70000 ∧ ∀ i, i < ocS S c → Z.ov (oaZ Z c + i) = nI (oxZ Z c i) ∧ oxZ Z c i < 38000 ∧ cnR S.f (S.dp (S.pc c)) S.FC (S.pc c) (S.nd (S.pc c)) c (S.CA c + 6 + 4 * i) (oxZ Z c i) := by
  obtain ⟨p, j, h1, h2, h3, h4, h5, o, h6⟩ := M.ch I hc
  obtain ⟨g1, g2, g3, g4⟩ := h6.2.2.1 hk
  have hot := M.2.2.2.2.2.2.2.2
  have hfr := I.frP
  have h8 := b8_lt (S.f (S.CA c + 5))
  have e1 : oaZ Z c = o := by
    unfold oaZ
    rw [g2]; exact nI_clamp (by omega)
  refine ⟨g1, by unfold ocS; omega, by rw [e1]; exact g2, by rw [e1]; unfold ocS; omega, fun i hi => ?_⟩
  obtain ⟨z, q1, q2⟩ := g4 i hi
  have hz : z < c := by
    rw [h3] at q1 ⊢
    exact I.cnl h1 h2 q1
  have hF := I.fcP
  have e2 : oxZ Z c i = z := by
    unfold oxZ
    rw [e1, q2]; exact nI_clamp (by omega)
  rw [e2, e1, h4]
  exact ⟨q2, by omega, q1⟩
theorem mrp.mv {S : Stk} {Z : Mda} {G : Gr} (M : mrp S Z G) (I : sInv S) : mvR (S.FC S.P) S.pc (kdS S) S.CF (ocS S) (oaZ Z) (oxZ Z) Z.of Z.so Z.fo Z.oc Z.oa Z.ov := by
  have hF := I.fcP
  have hP := I.hP
  obtain ⟨r1, r2, r3, r4, r5⟩ := M.2.2.2.2.2.2.1
  refine ⟨by omega, fun x hx => ?_, fun x hx hk => ?_, fun x hx hk => ?_⟩
  · obtain ⟨p, j, h1, h2, h3, h4, h5, _⟩ := M.ch I hx
    have h6 := I.kd hx
    exact ⟨by rw [h4]; exact h5, by omega, by rw [r1 x hx]; exact h6.1, h6.2⟩
  · have h6 := I.kd hx
    refine ⟨r2 x hx ?_, (r5 x hx).1⟩
    rcases (show kdS S x = 0 ∨ kdS S x = 1 by omega) with e | e
    · rw [e] at h6; exact Or.inl h6.1
    · rw [e] at h6; exact Or.inr (Or.inl h6.1)
  · obtain ⟨g1, g2, g3, g4, g5⟩ := M.over I hx ((I.kdi hx (by decide)).mp hk)
    exact ⟨g1, g2, g3, g4, fun i hi => ⟨(g5 i hi).1, (g5 i hi).2.1⟩⟩
theorem mrp.dist {S : Stk} {Z : Mda} {G : Gr} (M : mrp S Z G) (I : sInv S) : ∀ p q, p < S.P → q < S.P → sq (G.H p) 0 32 = sq (G.H q) 0 32 → p = q := by
  intro p q hp hq e
  have h := M.2.2.2.2.1.2.2
  have e1 : ∀ p, p < S.P → sq (G.H p) 0 32 = sq S.hf (p * 32) 32 := fun p hp => sq_congr 32 _ _ (fun k hk => by rw [Nat.zero_add]; exact h p k hp hk)
  rw [e1 p hp, e1 q hq] at e
  obtain ⟨i, hi, ei⟩ := I.sur p hp
  obtain ⟨k, hk, ek⟩ := I.sur q hq
  rcases Nat.lt_trichotomy i k with z | z | z
  · have := I.up i k z hk
    rw [ei, ek, e] at this
    exact absurd this (List.lt_irrefl _)
  · rw [← ei, ← ek, z]
  · have := I.up k i z hi
    rw [ei, ek, e] at this
    exact absurd this (List.lt_irrefl _)
/-- where a name stands -/
theorem sInv.nmw {S : Stk} (I : sInv S) {c : Nat} (hc : c < S.FC S.P) (hk : S.f (S.CA c) = 0 ∨ S.f (S.CA c) = 1) : nsS S c ≤ 64 ∧ S.f (nmAt S.f (S.CA c)) = nI (nsS S c) ∧ ntS S c + nsS S c ≤ S.FR S.P := by
  obtain ⟨p, j, h1, h2, h3⟩ := I.own (Nat.le_refl _) hc
  have h4 := I.chg h1 h2
  rw [← h3] at h4
  have h5 := I.frm (i := p + 1) (k := S.P) (by omega) (Nat.le_refl _)
  have key : ∀ (m : Int32) (b : Nat), nmR S.f (S.FR (p + 1)) m (nmAt S.f (S.CA c)) b → nsS S c ≤ 64 ∧ S.f (nmAt S.f (S.CA c)) = nI (nsS S c) ∧ ntS S c + nsS S c ≤ S.FR S.P := fun m b hn => by
    obtain ⟨g1, n, g2, g3, g4, g5, g6, g7⟩ := hn
    have e : nsS S c = n := by
      unfold nsS
      rw [g3]; exact b8_nIs (by omega)
    rw [e]
    exact ⟨g2, g3, by unfold ntS; omega⟩
  rcases h4 with h | h | h | h | h
  · have e : nmAt S.f (S.CA c) = S.CA c + 5 := if_pos h.1
    exact key 1 _ (by rw [e]; exact h.2)
  · have e : nmAt S.f (S.CA c) = S.CA c + 6 + 4 * b8 (S.f (S.CA c + 5)) := if_neg (by rw [h.1]; decide)
    exact key 0 _ (by rw [e]; exact h.2.2.2)
  · rcases hk with z | z <;> (rw [z] at h; exact absurd h.1 (by decide))
  · rcases hk with z | z <;> (rw [z] at h; exact absurd h.1 (by decide))
  · rcases hk with z | z <;> (rw [z] at h; exact absurd h.1 (by decide))
theorem sInv.k01 {S : Stk} (I : sInv S) {c : Nat} (hc : c < S.FC S.P) (hk : kdS S c ≤ 1) : S.f (S.CA c) = 0 ∨ S.f (S.CA c) = 1 := by
  have h6 := I.kd hc
  rcases (show kdS S c = 0 ∨ kdS S c = 1 by omega) with e | e
  · rw [e] at h6; exact Or.inl h6.1
  · rw [e] at h6; exact Or.inr h6.1
theorem mrp.ns {S : Stk} {Z : Mda} {G : Gr} (M : mrp S Z G) (I : sInv S) : ∀ c, c < S.FC S.P → kdS S c ≤ 1 → Z.ns c = nI (nsS S c) ∧ nsS S c ≤ 64 := fun c hc hk => by
  obtain ⟨p, j, h1, h2, h3, h4, h5, o, h6⟩ := M.ch I hc
  exact ⟨(h6.1 (I.k01 hc hk)).1, (I.nmw hc (I.k01 hc hk)).1⟩
theorem mrp.nt {S : Stk} {Z : Mda} {G : Gr} (M : mrp S Z G) (I : sInv S) : ∀ c, c < S.FC S.P → kdS S c ≤ 1 → Z.nt c = nI (ntS S c) ∧ ntS S c + nsS S c ≤ 200000 := fun c hc hk => by
  obtain ⟨p, j, h1, h2, h3, h4, h5, o, h6⟩ := M.ch I hc
  have h7 := (I.nmw hc (I.k01 hc hk)).2.2
  have h8 := I.frP
  exact ⟨(h6.1 (I.k01 hc hk)).2, by omega⟩
end
section
/-! 99zze.bridge2.lean.txt -/
theorem srt_pw {R : Nat → Nat → Prop} {L : List Nat} : srt R L ↔ L.Pairwise (fun a b => R b a) := by
  rw [List.pairwise_iff_getElem]
  constructor
  · intro h i j hi hj hij
    have h1 := h i j hij hj
    rw [List.getD_eq_getElem?_getD, List.getD_eq_getElem?_getD, List.getElem?_eq_getElem hj, List.getElem?_eq_getElem hi] at h1
    exact h1
  · intro h i j hij hj
    rw [List.getD_eq_getElem?_getD, List.getD_eq_getElem?_getD, List.getElem?_eq_getElem hj, List.getElem?_eq_getElem (show i < L.length by omega)]
    exact h i j (by omega) hj hij
/-- a name is there if it is not empty -/
theorem sInv.nsn {S : Stk} (I : sInv S) {c : Nat} (hc : c < S.FC S.P) (hk : S.f (S.CA c) = 0 ∨ S.f (S.CA c) = 1) : ¬ nsS S c = 0 ↔ isNm S.f (S.CA c) := by
  have h1 := I.nmw hc hk
  rcases hk with z | z
  · refine ⟨fun _ => Or.inl z, fun _ e => ?_⟩
    obtain ⟨p, j, p1, p2, p3⟩ := I.own (Nat.le_refl _) hc
    have h4 := I.chg p1 p2
    rw [← p3] at h4
    rcases h4 with h | h | h | h | h
    · have e1 : nmAt S.f (S.CA c) = S.CA c + 5 := if_pos h.1
      obtain ⟨g1, n, g2, g3, g4, _⟩ := h.2
      rw [← e1, h1.2.1, e] at g4
      exact g4 (by decide)
    · rw [z] at h; exact absurd h.1 (by decide)
    · rw [z] at h; exact absurd h.1 (by decide)
    · rw [z] at h; exact absurd h.1 (by decide)
    · rw [z] at h; exact absurd h.1 (by decide)
  · constructor
    · intro e
      refine Or.inr ⟨z, fun y => e ?_⟩
      rw [h1.2.1] at y
      exact (nI_eq (a := nsS S c) (b := 0) (by omega) (by omega)).mp y
    · rintro (y | y) e
      · rw [z] at y; exact absurd y (by decide)
      · exact y.2 (by rw [h1.2.1, e]; rfl)
theorem sInv.nd5 {S : Stk} (I : sInv S) {p : Nat} (hp : p < S.P) : S.nd p ≤ 2048 := by
  have := (I.bounds hp).2.2.2.1
  omega
/-- what is over a naming, in the rows of the reference -/
theorem mrp.ovs {S : Stk} {Z : Mda} {G : Gr} {sf : Nat → Int32} {mw : Nat → Int64} (M : mrp S Z G) (I : sInv S) (F : fb sf mw S.P) {c : Nat} : ovS S mw S.P c ↔ ∃ x, x < S.FC S.P ∧ kdS S x = 1 ∧ S.CF x = S.CF c ∧ sf (S.pc x) = 1 ∧ ∃ i, i < ocS S x ∧ oxZ Z x i = c := by
  constructor
  · rintro ⟨p, hp, hb, j, hj, h1, k, hk, hx⟩
    have hc : S.FC p + j < S.FC S.P := by have := (I.bounds hp).1; omega
    have hpc := I.pca hp hj
    obtain ⟨_, _, _, _, g5⟩ := M.over I hc h1
    obtain ⟨_, _, q3⟩ := g5 k hk
    rw [hpc] at q3
    have e : oxZ Z (S.FC p + j) k = c := cnR.uniq (I.nd5 hp) q3 hx
    obtain ⟨x', y1, y2, y3, y4⟩ := I.ref hp hj h1 hk
    have e2 : x' = c := cnR.uniq (I.nd5 hp) y1 hx
    exact ⟨S.FC p + j, hc, (I.kdi hc (by decide)).mpr h1, by rw [← y4, e2], by rw [hpc]; exact (F.one hp).mpr hb, k, hk, e⟩
  · rintro ⟨x, hx, hk, _, hs, i, hi, e⟩
    have h1 := (I.kdi hx (by decide)).mp hk
    obtain ⟨_, _, _, _, g5⟩ := M.over I hx h1
    obtain ⟨_, _, q3⟩ := g5 i hi
    obtain ⟨hp, j, hj, e2⟩ := I.pcs hx
    rw [e] at q3
    refine ⟨S.pc x, hp, (F.one hp).mp hs, j, hj, by rw [← e2]; exact h1, i, by rw [← e2]; exact hi, ?_⟩
    unfold ovK
    rw [← e2]
    exact q3
theorem mrp.ist {S : Stk} {Z : Mda} {G : Gr} {sf : Nat → Int32} {mw : Nat → Int64} (M : mrp S Z G) (I : sInv S) (F : fb sf mw S.P) {c : Nat} (hc : c < S.FC S.P) (hk : kdS S c ≤ 1) : isT sf (S.FC S.P) S.pc (kdS S) S.CF (ocS S) (nsS S) (oxZ Z) c ↔ bt mw (S.pc c) = true ∧ thB S mw c = true := by
  have hp := (I.pcs hc).1
  have h1 := I.nsn hc (I.k01 hc hk)
  have h2 := M.ovs I F (c := c)
  constructor
  · rintro ⟨a1, a2, a3⟩
    refine ⟨(F.one hp).mp a1, thB_yes (h1.mp a2) (fun z => ?_)⟩
    obtain ⟨x, b1, b2, b3, b4, i, b5, b6⟩ := h2.mp z
    exact a3 x b1 b2 b3 b4 i b5 b6
  · rintro ⟨a1, a2⟩
    unfold thB at a2
    rw [Bool.and_eq_true, nmB_iff] at a2
    refine ⟨(F.one hp).mpr a1, h1.mpr a2.1, fun x b1 b2 b3 b4 i b5 b6 => ?_⟩
    have h3 := ovB_iff.mpr (h2.mpr ⟨x, b1, b2, b3, b4, i, b5, b6⟩)
    rw [h3] at a2
    exact absurd a2.2 (by decide)
theorem sInv.allu {S : Stk} (I : sInv S) {mw : Nat → Int64} {c : Nat} : c ∈ allU S mw S.P ↔ c < S.FC S.P ∧ bt mw (S.pc c) = true := by
  rw [allU_mem]
  constructor
  · rintro ⟨k, h1, h2, h3, h4⟩
    have hb := I.bh k h1
    have h5 := (I.bounds hb).1
    refine ⟨by omega, ?_⟩
    have e : c = S.FC (S.BH k) + (c - S.FC (S.BH k)) := by omega
    rw [e, I.pca hb (by omega)]
    exact h2
  · rintro ⟨h1, h2⟩
    obtain ⟨hp, j, hj, e⟩ := I.pcs h1
    obtain ⟨k, hk, ek⟩ := I.sur _ hp
    exact ⟨k, hk, by rw [ek]; exact h2, by rw [ek]; omega, by rw [ek]; omega⟩
theorem thB.k {S : Stk} {mw : Nat → Int64} {c : Nat} (h : thB S mw c = true) : S.f (S.CA c) = 0 ∨ S.f (S.CA c) = 1 := by
  unfold thB at h
  rw [Bool.and_eq_true, nmB_iff] at h
  rcases h.1 with z | z
  · exact Or.inl z
  · exact Or.inr z.1
theorem sInv.k01r {S : Stk} (I : sInv S) {c : Nat} (hc : c < S.FC S.P) (h : S.f (S.CA c) = 0 ∨ S.f (S.CA c) = 1) : kdS S c ≤ 1 := by
  rcases h with z | z
  · rw [kd_k 0 (by omega) z]; omega
  · rw [kd_k 1 (by omega) z]; exact Nat.le_refl _
theorem mrp.nam {S : Stk} {Z : Mda} {G : Gr} {sf : Nat → Int32} {mw : Nat → Int64} (M : mrp S Z G) (I : sInv S) (F : fb sf mw S.P) {y c : Nat} : nmS sf (S.FC S.P) S.pc (kdS S) S.CF (ocS S) (nsS S) (oxZ Z) y (S.FC S.P) c ↔ c ∈ namL S mw ∧ S.CF c = y := by
  unfold namL nmA
  rw [List.mem_filter, I.allu]
  constructor
  · rintro ⟨h1, h2, h3, h4⟩
    have h5 := (M.ist I F h1 h2).mp h4
    exact ⟨⟨⟨h1, h5.1⟩, h5.2⟩, h3⟩
  · rintro ⟨⟨⟨h1, h2⟩, h3⟩, h4⟩
    have hk := I.k01r h1 (thB.k h3)
    exact ⟨h1, hk, h4, (M.ist I F h1 hk).mpr ⟨h2, h3⟩⟩
theorem mrp.hsq {S : Stk} {Z : Mda} {G : Gr} (M : mrp S Z G) {p : Nat} (hp : p < S.P) : sq (G.H p) 0 32 = sq S.hf (p * 32) 32 := sq_congr 32 _ _ (fun k hk => by rw [Nat.zero_add]; exact M.2.2.2.2.1.2.2 p k hp hk)
theorem mrp.srtU {S : Stk} {Z : Mda} {G : Gr} (M : mrp S Z G) (I : sInv S) (mw : Nat → Int64) : ∀ i, i ≤ S.P → (allU S mw i).Pairwise (fun a b => kyG G.H S.pc b a)
  | 0, _ => List.Pairwise.nil
  | i + 1, hi => by
    have ih := M.srtU I mw i (by omega)
    show (allU S mw i ++ (if bt mw (S.BH i) = true then seqL (S.FC (S.BH i)) (S.nT (S.BH i)) else [])).Pairwise _
    by_cases e : bt mw (S.BH i) = true
    · rw [if_pos e, List.pairwise_append]
      have hb := I.bh i (by omega)
      have hpc : ∀ x, x ∈ seqL (S.FC (S.BH i)) (S.nT (S.BH i)) → S.pc x = S.BH i := fun x hx => by
        have h1 := seqL_mem.mp hx
        have e1 : x = S.FC (S.BH i) + (x - S.FC (S.BH i)) := by omega
        rw [e1, I.pca hb (by omega)]
      refine ⟨ih, ?_, fun a ha b hb2 => ?_⟩
      · have h2 : ∀ n a, (seqL a n).Pairwise (fun x y => x < y) := fun n => by
          induction n with
          | zero => intro a; exact List.Pairwise.nil
          | succ n ihn =>
            intro a
            show (seqL a n ++ [a + n]).Pairwise _
            rw [List.pairwise_append]
            exact ⟨ihn a, List.pairwise_singleton _ _, fun x hx y hy => by rw [List.mem_singleton.mp hy]; exact (seqL_mem.mp hx).2⟩
        refine List.Pairwise.imp_of_mem (fun {x y} hx hy hxy => ?_) (h2 (S.nT (S.BH i)) (S.FC (S.BH i)))
        exact Or.inl ⟨by rw [hpc x hx, hpc y hy], hxy⟩
      · obtain ⟨k, h1, h2, h3, h4⟩ := allU_mem.mp ha
        have hbk := I.bh k (by omega)
        have e2 : S.pc a = S.BH k := by
          have e1 : a = S.FC (S.BH k) + (a - S.FC (S.BH k)) := by omega
          rw [e1, I.pca hbk (by omega)]
        have h5 := I.up k i h1 (by omega)
        refine Or.inr ⟨?_, ?_⟩
        · rw [hpc b hb2, e2]
          exact fun z => I.inj k i h1 (by omega) z.symm
        · rw [hpc b hb2, e2, M.hsq hb, M.hsq hbk]; exact h5
    · rw [if_neg e, List.append_nil]; exact ih
theorem mrp.nml {S : Stk} {Z : Mda} {G : Gr} {sf : Nat → Int32} {mw : Nat → Int64} (M : mrp S Z G) (I : sInv S) (F : fb sf mw S.P) {y : Nat} {NL : List Nat} (h1 : srt (kyG G.H S.pc) NL) (h2 : ∀ c, c ∈ NL ↔ nmS sf (S.FC S.P) S.pc (kdS S) S.CF (ocS S) (nsS S) (oxZ Z) y (S.FC S.P) c) : NL = (namL S mw).filter (fun c => S.CF c == y) := by
  refine srt.uniq (R := kyG G.H S.pc) (fun a => kyG.ir a) (fun a b d => kyG.tr a b d) _ _ h1 ?_ (fun x => ?_)
  · rw [srt_pw]
    unfold namL nmA
    exact ((M.srtU I mw S.P (Nat.le_refl _)).filter _).filter _
  · rw [h2 x, M.nam I F, List.mem_filter, beq_iff_eq]
theorem nOf_len (S : Stk) (y : Nat) (L : List Nat) : nOf S y L = (L.filter (fun c => S.CF c == y)).length := rfl
/-- each file has a change that adds it -/
theorem sInv.adx {S : Stk} (I : sInv S) {y : Nat} : ∀ n, n ≤ S.P → y < S.NFp n → ∃ p j, p < n ∧ j < S.nT p ∧ S.f (S.CA (S.FC p + j)) = 0 ∧ NFs S.f S.CA (S.FC p) (S.NFp p) j = y
  | 0, _, h => by rw [I.nf0] at h; exact absurd h (Nat.not_lt_zero _)
  | n + 1, hn, h => by
    by_cases e : y < S.NFp n
    · obtain ⟨p, j, h1, h2⟩ := I.adx n (by omega) e
      exact ⟨p, j, by omega, h2⟩
    · rw [(I.pi n (by omega)).nf] at h
      have key : ∀ m, m ≤ S.nT n → y < NFs S.f S.CA (S.FC n) (S.NFp n) m → ∃ j, j < m ∧ S.f (S.CA (S.FC n + j)) = 0 ∧ NFs S.f S.CA (S.FC n) (S.NFp n) j = y := fun m => by
        induction m with
        | zero => intro _ h2; exact absurd h2 e
        | succ m ih =>
          intro hm h2
          by_cases e2 : y < NFs S.f S.CA (S.FC n) (S.NFp n) m
          · obtain ⟨j, h3, h4⟩ := ih (by omega) e2
            exact ⟨j, by omega, h4⟩
          · have h5 : NFs S.f S.CA (S.FC n) (S.NFp n) (m + 1) = NFX S.f (NFs S.f S.CA (S.FC n) (S.NFp n) m) (S.CA (S.FC n + m)) := rfl
            rw [h5] at h2
            unfold NFX at h2
            by_cases e3 : S.f (S.CA (S.FC n + m)) = 0
            · rw [if_pos e3] at h2
              exact ⟨m, by omega, e3, by omega⟩
            · rw [if_neg e3] at h2
              exact absurd h2 e2
      obtain ⟨j, h3, h4⟩ := key _ (Nat.le_refl _) h
      exact ⟨n, j, by omega, h3, h4⟩
/-- the change that adds a file -/
def fhS (S : Stk) (y : Nat) : Nat := (S.ad y).toNatClampNeg
theorem sInv.fhc {S : Stk} (I : sInv S) {c : Nat} (hc : c < S.FC S.P) (h0 : S.f (S.CA c) = 0) : fhS S (S.CF c) = c ∧ S.ad (S.CF c) = nI c ∧ S.CF c < S.NFp S.P := by
  obtain ⟨p, j, h1, h2, h3⟩ := I.own (Nat.le_refl _) hc
  have h4 := (I.pi p h1).rs j h2
  rw [← h3] at h4
  have h5 := (I.pi p h1).ad j h2 (by rw [← h3]; exact h0)
  have hF := I.fcP
  have e : S.CF c = NFs S.f S.CA (S.FC p) (S.NFp p) j := by
    rcases h4 with h | h | h | h | h
    · exact h.2
    · rw [h0] at h; exact absurd h.1 (by decide)
    · rw [h0] at h; exact absurd h.1 (by decide)
    · rw [h0] at h; exact absurd h.1 (by decide)
    · rw [h0] at h; exact absurd h.1 (by decide)
  rw [← e, ← h3] at h5
  exact ⟨by unfold fhS; rw [h5]; exact nI_clamp (by omega), h5, I.cfl hc⟩
theorem sInv.fhy {S : Stk} (I : sInv S) {y : Nat} (hy : y < S.NFp S.P) : fhS S y < S.FC S.P ∧ S.f (S.CA (fhS S y)) = 0 ∧ S.CF (fhS S y) = y := by
  obtain ⟨p, j, h1, h2, h3, h4⟩ := I.adx S.P (Nat.le_refl _) hy
  have hc : S.FC p + j < S.FC S.P := by have := (I.bounds h1).1; omega
  have h5 := (I.pi p h1).ad j h2 h3
  have hF := I.fcP
  have e : fhS S y = S.FC p + j := by
    unfold fhS
    rw [← h4, h5]; exact nI_clamp (by omega)
  rw [e]
  refine ⟨hc, h3, ?_⟩
  have h6 := (I.pi p h1).rs j h2
  rcases h6 with h | h | h | h | h
  · rw [h.2]; exact h4
  · rw [h3] at h; exact absurd h.1 (by decide)
  · rw [h3] at h; exact absurd h.1 (by decide)
  · rw [h3] at h; exact absurd h.1 (by decide)
  · rw [h3] at h; exact absurd h.1 (by decide)
theorem mrp.fh {S : Stk} {Z : Mda} {G : Gr} (M : mrp S Z G) (I : sInv S) : ∀ y, y < S.NFp S.P → Z.fh y = nI (fhS S y) ∧ fhS S y < S.FC S.P ∧ True := fun y hy => by
  obtain ⟨p, j, h1, h2, h3, h4⟩ := I.adx S.P (Nat.le_refl _) hy
  have hc : S.FC p + j < S.FC S.P := by have := (I.bounds h1).1; omega
  obtain ⟨_, o, h6⟩ := M.2.2.2.2.2.1 p j h1 h2
  have h7 := I.nfP
  have h8 := h6.2.2.2.2.2.2.2.2 h3 (by rw [h4]; omega)
  rw [h4] at h8
  have h9 := I.fhy hy
  have e : fhS S y = S.FC p + j := by
    have h5 := (I.pi p h1).ad j h2 h3
    have hF := I.fcP
    unfold fhS
    rw [← h4, h5]; exact nI_clamp (by omega)
  rw [e]
  exact ⟨h8, hc, trivial⟩
theorem sInv.fhj {S : Stk} (I : sInv S) : ∀ a b, a < S.NFp S.P → b < S.NFp S.P → fhS S a = fhS S b → a = b := fun a b ha hb e => by
  rw [← (I.fhy ha).2.2, ← (I.fhy hb).2.2, e]
/-- the files that are there -/
theorem mrp.fil {S : Stk} {Z : Mda} {G : Gr} {sf : Nat → Int32} {mw : Nat → Int64} (M : mrp S Z G) (I : sInv S) (F : fb sf mw S.P) {y : Nat} : flS sf (S.FC S.P) S.pc (kdS S) S.CF (ocS S) (nsS S) (oxZ Z) (fhS S) (S.NFp S.P) y ↔ y ∈ filL S mw := by
  unfold filL flA
  rw [List.mem_filter, hasN_iff, List.mem_map]
  constructor
  · rintro ⟨h1, h2, c, h3⟩
    obtain ⟨g1, g2, g3⟩ := I.fhy h1
    have h4 := (M.nam I F).mp h3
    refine ⟨⟨fhS S y, List.mem_filter.mpr ⟨I.allu.mpr ⟨g1, (F.one (I.pcs g1).1).mp h2⟩, ?_⟩, g3⟩, ?_⟩
    · unfold adB
      rw [beq_iff_eq]; exact g2
    · rw [nOf_len]
      exact List.length_pos_of_mem (List.mem_filter.mpr ⟨h4.1, by rw [beq_iff_eq]; exact h4.2⟩)
  · rintro ⟨⟨c, h1, h2⟩, h3⟩
    obtain ⟨h4, h5⟩ := List.mem_filter.mp h1
    obtain ⟨h6, h7⟩ := I.allu.mp h4
    unfold adB at h5
    rw [beq_iff_eq] at h5
    obtain ⟨g1, g2, g3⟩ := I.fhc h6 h5
    rw [h2] at g1 g3
    rw [nOf_len] at h3
    obtain ⟨d, hd⟩ := List.exists_mem_of_length_pos h3
    obtain ⟨d1, d2⟩ := List.mem_filter.mp hd
    rw [beq_iff_eq] at d2
    exact ⟨g3, by rw [g1]; exact (F.one (I.pcs h6).1).mpr h7, d, (M.nam I F).mpr ⟨d1, d2⟩⟩
theorem mrp.fls {S : Stk} {Z : Mda} {G : Gr} {sf : Nat → Int32} {mw : Nat → Int64} (M : mrp S Z G) (I : sInv S) (F : fb sf mw S.P) {FL : List Nat} (h1 : srt (fkG G.H S.pc (fhS S)) FL) (h2 : ∀ x, x ∈ FL ↔ flS sf (S.FC S.P) S.pc (kdS S) S.CF (ocS S) (nsS S) (oxZ Z) (fhS S) (S.NFp S.P) x) : FL = filL S mw := by
  refine srt.uniq (R := fkG G.H S.pc (fhS S)) (fun a => kyG.ir _) (fun a b d => kyG.tr _ _ _) _ _ h1 ?_ (fun x => (h2 x).trans (M.fil I F))
  rw [srt_pw]
  unfold filL flA
  refine List.Pairwise.filter _ ?_
  rw [List.pairwise_map]
  refine List.Pairwise.imp_of_mem (fun {a b} ha hb hab => ?_) ((M.srtU I mw S.P (Nat.le_refl _)).filter _)
  obtain ⟨a1, a2⟩ := List.mem_filter.mp ha
  obtain ⟨b1, b2⟩ := List.mem_filter.mp hb
  unfold adB at a2 b2
  rw [beq_iff_eq] at a2 b2
  have ea := (I.fhc (I.allu.mp a1).1 a2).1
  have eb := (I.fhc (I.allu.mp b1).1 b2).1
  unfold fkG
  rw [ea, eb]
  exact hab
end
section
/-! 99zzf.bridge3.lean.txt -/
/-- each line is a line of an insert -/
theorem sInv.lnx {S : Stk} (I : sInv S) {l : Nat} : ∀ n, n ≤ S.P → l < S.NLp n → ∃ p j, p < n ∧ j < S.nT p ∧ S.f (S.CA (S.FC p + j)) = 2 ∧ S.CL (S.FC p + j) ≤ l ∧ l < S.CL (S.FC p + j) + nLn S (S.FC p + j)
  | 0, _, h => by rw [I.nl0] at h; exact absurd h (Nat.not_lt_zero _)
  | n + 1, hn, h => by
    by_cases e : l < S.NLp n
    · obtain ⟨p, j, h1, h2⟩ := I.lnx n (by omega) e
      exact ⟨p, j, by omega, h2⟩
    · rw [(I.pi n (by omega)).nl] at h
      have key : ∀ m, m ≤ S.nT n → l < NLs S.f S.CA (S.FC n) (S.NLp n) m → ∃ j, j < m ∧ S.f (S.CA (S.FC n + j)) = 2 ∧ NLs S.f S.CA (S.FC n) (S.NLp n) j ≤ l ∧ l < NLs S.f S.CA (S.FC n) (S.NLp n) j + nLn S (S.FC n + j) := fun m => by
        induction m with
        | zero => intro _ h2; exact absurd h2 e
        | succ m ih =>
          intro hm h2
          by_cases e2 : l < NLs S.f S.CA (S.FC n) (S.NLp n) m
          · obtain ⟨j, h3, h4⟩ := ih (by omega) e2
            exact ⟨j, by omega, h4⟩
          · by_cases e3 : S.f (S.CA (S.FC n + m)) = 2
            · rw [NLs_eq e3] at h2
              exact ⟨m, by omega, e3, by omega, h2⟩
            · rw [NLs_ne e3] at h2
              exact absurd h2 e2
      obtain ⟨j, h3, h4, h5, h6⟩ := key _ (Nat.le_refl _) h
      rw [← (I.pi n (by omega)).cl j h3] at h5 h6
      exact ⟨n, j, by omega, h3, h4, h5, h6⟩
/-- the change of a line -/
def lcS (S : Stk) (l : Nat) : Nat := (S.lc l).toNatClampNeg
/-- what is known of the lines of an insert -/
theorem sInv.lnf {S : Stk} (I : sInv S) {c q : Nat} (hc : c < S.FC S.P) (h2 : S.f (S.CA c) = 2) (hq : q < nLn S c) : S.lc (S.CL c + q) = nI c ∧ lcS S (S.CL c + q) = c ∧ S.lp (S.CL c + q) = nI q ∧ S.CL c + q < S.NLp S.P ∧ upR S.f (S.dp (S.pc c)) S.FC S.CL (S.pc c) (S.nd (S.pc c)) c (S.CA c + 5) (S.lu (S.CL c + q)) ∧ upR S.f (S.dp (S.pc c)) S.FC S.CL (S.pc c) (S.nd (S.pc c)) c (plEnd S.f (S.CA c + 5)) (S.ld (S.CL c + q)) := by
  obtain ⟨p, j, h1, hj, h3⟩ := I.own (Nat.le_refl _) hc
  have hpc : S.pc c = p := by rw [h3]; exact I.pca h1 hj
  have h4 := (I.pi p h1).li j hj (by rw [← h3]; exact h2)
  rw [← h3] at h4
  obtain ⟨g1, g2, g3, g4, g5, g6⟩ := h4 q hq
  have hF := I.fcP
  have h5 := I.cle h1 hj (by rw [← h3]; exact h2)
  rw [← h3] at h5
  have h6 := NLs_mono S.f S.CA (S.FC p) (S.NLp p) (i := j + 1) (j := S.nT p) (by omega)
  rw [← (I.pi p h1).nl] at h6
  have h7 := I.nlm (i := p + 1) (k := S.P) (by omega) (Nat.le_refl _)
  rw [hpc]
  exact ⟨g3, by unfold lcS; rw [g3]; exact nI_clamp (by omega), g4, by omega, g5, g6⟩
theorem sInv.lno {S : Stk} (I : sInv S) {l : Nat} (hl : l < S.NLp S.P) : lcS S l < S.FC S.P ∧ S.f (S.CA (lcS S l)) = 2 ∧ S.CL (lcS S l) ≤ l ∧ l < S.CL (lcS S l) + nLn S (lcS S l) := by
  obtain ⟨p, j, h1, h2, h3, h4, h5⟩ := I.lnx S.P (Nat.le_refl _) hl
  have hc : S.FC p + j < S.FC S.P := by have := (I.bounds h1).1; omega
  have e := (I.lnf hc h3 (show l - S.CL (S.FC p + j) < nLn S (S.FC p + j) by omega)).2.1
  rw [show S.CL (S.FC p + j) + (l - S.CL (S.FC p + j)) = l by omega] at e
  rw [e]
  exact ⟨hc, h3, h4, h5⟩
theorem sInv.ln1 {S : Stk} (I : sInv S) {c : Nat} (hc : c < S.FC S.P) (h2 : S.f (S.CA c) = 2) : 1 ≤ nLn S c ∧ S.CL c + nLn S c ≤ S.NLp S.P := by
  obtain ⟨p, j, h1, hj, h3⟩ := I.own (Nat.le_refl _) hc
  have h4 := I.chg h1 hj
  rw [← h3] at h4
  have k1 : 1 ≤ nLn S c := by
    rcases h4 with h | h | h | h | h
    · rw [h2] at h; exact absurd h.1 (by decide)
    · rw [h2] at h; exact absurd h.1 (by decide)
    · obtain ⟨q1, q2, g1, g2, g3, g4, _⟩ := h.2
      have e : lnAt S.f (S.CA c) = q2 := by
        unfold lnAt
        rw [g1.end, g2.end]
      unfold nLn
      rw [e]; exact g4
    · rw [h2] at h; exact absurd h.1 (by decide)
    · rw [h2] at h; exact absurd h.1 (by decide)
  have := (I.lnf hc h2 (show nLn S c - 1 < nLn S c by omega)).2.2.2.1
  exact ⟨k1, by omega⟩
theorem upR.uniq {f : Nat → Int32} {DP FC CL : Nat → Nat} {P nd cc k : Nat} {v w : Int32} (hn : nd ≤ 2048) (h1 : upR f DP FC CL P nd cc k v) (h2 : upR f DP FC CL P nd cc k w) : v = w := by
  rcases h1 with ⟨a1, a2⟩ | ⟨a1, x, a2, a3⟩
  · rcases h2 with ⟨b1, b2⟩ | ⟨b1, _⟩
    · rw [a2, b2]
    · exact absurd a1 b1
  · rcases h2 with ⟨b1, _⟩ | ⟨b1, y, b2, b3⟩
    · exact absurd b1 a1
    · rw [a3, b3, cnR.uniq hn a2 b2]
/-- the reference's rows of an insert -/
theorem mrp.in2 {S : Stk} {Z : Mda} {G : Gr} (M : mrp S Z G) (I : sInv S) {c : Nat} (hc : c < S.FC S.P) (h2 : S.f (S.CA c) = 2) : Z.la c = nI (S.CL c) ∧ Z.lc c = nI (nLn S c) ∧ (∀ q, q < nLn S c → Z.lh (S.CL c + q) = nI c ∧ Z.on c = S.lu (S.CL c + q) ∧ Z.tw c = S.ld (S.CL c + q)) ∧ Z.fo c = nI (S.CF c) := by
  obtain ⟨p, j, h1, hj, h3, hpc, h5, o, h6⟩ := M.ch I hc
  obtain ⟨g1, g2, g3, g4, g5⟩ := h6.2.2.2.2.1 h2
  refine ⟨g1, g2, fun q hq => ?_, M.2.2.2.2.2.2.1.2.1 c hc (Or.inr (Or.inr h2))⟩
  obtain ⟨l1, l2, l3, l4, l5, l6⟩ := I.lnf hc h2 hq
  have hN := I.nlP
  rw [hpc] at l5 l6
  exact ⟨(g5 q hq (by omega)).1, upR.uniq (I.nd5 h1) g3 l5, upR.uniq (I.nd5 h1) g4 l6⟩
theorem mrp.lin {S : Stk} {Z : Mda} {G : Gr} (M : mrp S Z G) (I : sInv S) : ∀ l, l < S.NLp S.P → Z.lh l = nI (lcS S l) ∧ lcS S l < 38000 ∧ Z.fo (lcS S l) = nI (S.CF (lcS S l)) ∧ S.CF (lcS S l) < 40000 ∧ Z.of (lcS S l) = nI (S.pc (lcS S l)) ∧ S.pc (lcS S l) < S.P := fun l hl => by
  obtain ⟨h1, h2, h3, h4⟩ := I.lno hl
  obtain ⟨g1, g2, g3, g4⟩ := M.in2 I h1 h2
  have h5 := (g3 (l - S.CL (lcS S l)) (by omega)).1
  rw [show S.CL (lcS S l) + (l - S.CL (lcS S l)) = l by omega] at h5
  have hF := I.fcP
  have h6 := (M.mv I).2.1 _ h1
  have h7 := I.cfl h1
  have h8 := I.nfP
  exact ⟨h5, by omega, g4, by omega, h6.1, (I.pcs h1).1⟩
/-- the lines of a graph -/
theorem mrp.row {S : Stk} {sf : Nat → Int32} {mw : Nat → Int64} (I : sInv S) (F : fb sf mw S.P) {y x : Nat} : x ∈ rowL S mw y ↔ gIn sf (S.NLp S.P) S.pc S.CF (lcS S) y x := by
  unfold rowL
  rw [lnU_mem]
  constructor
  · rintro ⟨k, j, h1, h2, h3, h4⟩
    obtain ⟨g1, g2, g3, g4⟩ := lcC_mem.mp h4
    have hb := I.bh k h1
    have hc : S.FC (S.BH k) + j < S.FC S.P := by have := (I.bounds hb).1; omega
    obtain ⟨l1, l2, l3, l4, _⟩ := I.lnf hc g1 (show x - S.CL (S.FC (S.BH k) + j) < nLn S (S.FC (S.BH k) + j) by omega)
    rw [show S.CL (S.FC (S.BH k) + j) + (x - S.CL (S.FC (S.BH k) + j)) = x by omega] at l2 l4
    exact ⟨l4, by rw [l2]; exact g2, by rw [l2, I.pca hb h3]; exact (F.one hb).mpr h2⟩
  · rintro ⟨h1, h2, h3⟩
    obtain ⟨g1, g2, g3, g4⟩ := I.lno h1
    obtain ⟨hp, j, hj, e⟩ := I.pcs g1
    obtain ⟨k, hk, ek⟩ := I.sur _ hp
    exact ⟨k, j, hk, by rw [ek]; exact (F.one hp).mp h3, by rw [ek]; exact hj, lcC_mem.mpr (by rw [ek, ← e]; exact ⟨g2, h2, g3, g4⟩)⟩
/-- the last line of an insert -/
theorem sInv.last {S : Stk} (I : sInv S) {c q : Nat} (hc : c < S.FC S.P) (h2 : S.f (S.CA c) = 2) (hq : q < nLn S c) : lastL S (S.CL c + q) ↔ q + 1 = nLn S c := by
  constructor
  · intro h
    rcases Nat.lt_or_ge (q + 1) (nLn S c) with z | z
    · obtain ⟨l1, l2, l3, l4, _⟩ := I.lnf hc h2 z
      rcases h with h | h
      · omega
      · rw [Nat.add_assoc, l3] at h
        have h4 := I.nlP
        have := (nI_eq (a := q + 1) (b := 0) (by omega) (by omega)).mp h
        omega
    · omega
  · intro h
    rcases Nat.lt_or_ge (S.CL c + q + 1) (S.NLp S.P) with z | z
    · right
      obtain ⟨g1, g2, g3, g4⟩ := I.lno z
      obtain ⟨l1, l2, l3, l4, _⟩ := I.lnf g1 g2 (show S.CL c + q + 1 - S.CL (lcS S (S.CL c + q + 1)) < nLn S (lcS S (S.CL c + q + 1)) by omega)
      rw [show S.CL (lcS S (S.CL c + q + 1)) + (S.CL c + q + 1 - S.CL (lcS S (S.CL c + q + 1))) = S.CL c + q + 1 by omega] at l3
      rw [l3]
      have e : S.CL c + q + 1 - S.CL (lcS S (S.CL c + q + 1)) = 0 := by
        rcases Nat.eq_zero_or_pos (S.CL c + q + 1 - S.CL (lcS S (S.CL c + q + 1))) with y | y
        · exact y
        · have := I.cldj hc g1 h2 g2 (x := S.CL c + q) (by omega) (by omega)
          rw [← this] at g4
          omega
      rw [e]; rfl
    · exact Or.inl z
/-- a line that a ref names -/
theorem sInv.lnr {S : Stk} (I : sInv S) {p j k y : Nat} (hp : p < S.P) (hj : j < S.nT p) (h : flR S.f (S.dp p) S.FC S.CA S.CF p (S.nd p) (S.FC p + j) k y) : ∃ x, cnR S.f (S.dp p) S.FC p (S.nd p) (S.FC p + j) k x ∧ x < S.FC S.P ∧ S.f (S.CA x) = 2 ∧ tw S.f (k + 4) < nLn S x ∧ S.CF x = y ∧ lcS S (S.CL x + tw S.f (k + 4)) = x ∧ S.CL x + tw S.f (k + 4) < S.NLp S.P := by
  obtain ⟨x, h1, h2, h3, h4, h5⟩ := I.lref hp h
  have hb := (I.bounds hp).1
  have hx : x < S.FC S.P := by omega
  obtain ⟨l1, l2, l3, l4, _⟩ := I.lnf hx h3 h4
  exact ⟨x, h1, hx, h3, h4, h5, l2, l4⟩
/-- what a closed set names is in it -/
theorem clo.ref {S : Stk} {mw : Nat → Int64} (C : clo S mw) (I : sInv S) {p j k x : Nat} (hp : p < S.P) (hj : j < S.nT p) (hb : bt mw p = true) (h : cnR S.f (S.dp p) S.FC p (S.nd p) (S.FC p + j) k x) : bt mw (S.pc x) = true := by
  rcases h with ⟨h1, h2, h3⟩ | ⟨h1, h2, h3⟩
  · rw [h2, I.pca hp (by omega)]; exact hb
  · have hd := ((I.pi p hp).dep _ h1).1
    have hq : S.dp p (tw S.f k) < S.P := by omega
    have h4 := (I.pi _ hq).fc
    have hP := I.hP
    rw [h2, I.pca hq (by omega)]
    exact C p hp hb _ (by omega) (((I.pi p hp).ln _ (by omega)).mpr ⟨_, h1, Or.inl rfl⟩)
end
section
/-! 99zzg.bridge4.lean.txt -/
/-- what the reference's rows hold of an order and of a delete -/
theorem mrp.in34 {S : Stk} {Z : Mda} {G : Gr} (M : mrp S Z G) (I : sInv S) {c : Nat} (hc : c < S.FC S.P) (hk : S.f (S.CA c) = 3 ∨ S.f (S.CA c) = 4) : ∃ x l, cnR S.f (S.dp (S.pc c)) S.FC (S.pc c) (S.nd (S.pc c)) c (S.CA c + 1) x ∧ l = S.CL x + tw S.f (S.CA c + 1 + 4) ∧ Z.on c = nI l ∧ l < S.NLp S.P ∧ lcS S l = x ∧ S.CF x = S.CF c ∧ (S.f (S.CA c) = 4 → ∃ x2 m, cnR S.f (S.dp (S.pc c)) S.FC (S.pc c) (S.nd (S.pc c)) c (S.CA c + 7) x2 ∧ m = S.CL x2 + tw S.f (S.CA c + 7 + 4) ∧ Z.tw c = nI m ∧ m < S.NLp S.P ∧ lcS S m = x2 ∧ S.CF x2 = S.CF c) := by
  obtain ⟨p, j, h1, hj, h3, hpc, h5, o, h6⟩ := M.ch I hc
  have h4 := (I.pi p h1).rs j hj
  rw [← h3] at h4
  have hf : flR S.f (S.dp p) S.FC S.CA S.CF p (S.nd p) c (S.CA c + 1) (S.CF c) ∧ (S.f (S.CA c) = 4 → flR S.f (S.dp p) S.FC S.CA S.CF p (S.nd p) c (S.CA c + 7) (S.CF c)) := by
    rcases h4 with h | h | h | h | h
    · rcases hk with z | z <;> (rw [z] at h; exact absurd h.1 (by decide))
    · rcases hk with z | z <;> (rw [z] at h; exact absurd h.1 (by decide))
    · rcases hk with z | z <;> (rw [z] at h; exact absurd h.1 (by decide))
    · exact ⟨h.2, fun z => by rw [z] at h; exact absurd h.1 (by decide)⟩
    · exact ⟨h.2.1, fun _ => h.2.2.1⟩
  obtain ⟨z, g1, g2⟩ := h6.2.2.2.2.2.2.1 hk
  have hf1 := hf.1
  rw [h3] at hf1
  obtain ⟨x, a1, a2, a3, a4, a5, a6, a7⟩ := I.lnr h1 hj hf1
  rw [← h3] at a1 a4 a5 a6 a7
  have ez : z = x := cnR.uniq (I.nd5 h1) g1 a1
  rw [hpc]
  refine ⟨x, S.CL x + tw S.f (S.CA c + 1 + 4), a1, rfl, by rw [← ez]; exact g2, a7, a6, a5, fun k4 => ?_⟩
  obtain ⟨z2, g3, g4⟩ := h6.2.2.2.2.2.2.2.1 k4
  have hf2 := hf.2 k4
  rw [h3] at hf2
  obtain ⟨x2, b1, b2, b3, b4, b5, b6, b7⟩ := I.lnr h1 hj hf2
  rw [← h3] at b1 b4 b5 b6 b7
  have ez2 : z2 = x2 := cnR.uniq (I.nd5 h1) g3 b1
  exact ⟨x2, S.CL x2 + tw S.f (S.CA c + 7 + 4), b1, rfl, by rw [← ez2]; exact g4, b7, b6, b5⟩
/-- the lines that a set deletes -/
theorem mrp.del {S : Stk} {Z : Mda} {G : Gr} {sf : Nat → Int32} {mw : Nat → Int64} (M : mrp S Z G) (I : sInv S) (F : fb sf mw S.P) {y l : Nat} : deG S mw y l ↔ gDe sf (S.FC S.P) S.pc (kdS S) S.CF (lcS S) Z.on y l := by
  have hN := I.nlP
  constructor
  · rintro ⟨p, hp, hb, j, hj, h3, hy, x, hx, e⟩
    have hc : S.FC p + j < S.FC S.P := by have := (I.bounds hp).1; omega
    have hpc := I.pca hp hj
    obtain ⟨x', l', a1, a2, a3, a4, a5, a6, _⟩ := M.in34 I hc (Or.inl h3)
    rw [hpc] at a1
    have ex : x' = x := cnR.uniq (I.nd5 hp) a1 hx
    have el : l' = l := by rw [a2, e, ex]
    rw [el] at a3 a4 a5
    exact ⟨S.FC p + j, hc, by rw [hpc]; exact (F.one hp).mpr hb, (I.kdi hc (by decide)).mpr h3, a3, by omega, by rw [a5, a6, hy]⟩
  · rintro ⟨c, hc, hs, hk, h1, h2, h3⟩
    have hk3 := (I.kdi hc (by decide)).mp hk
    obtain ⟨hp, j, hj, e⟩ := I.pcs hc
    obtain ⟨x', l', a1, a2, a3, a4, a5, a6, _⟩ := M.in34 I hc (Or.inl hk3)
    have el : l' = l := (nI_eq (a := l') (b := l) (by omega) (by omega)).mp (a3.symm.trans h1)
    rw [el] at a2 a5
    refine ⟨S.pc c, hp, (F.one hp).mp hs, j, hj, by rw [← e]; exact hk3, ?_, x', ?_, ?_⟩
    · rw [← e, ← a6, ← a5, h3]
    · rw [← e]; exact a1
    · rw [← e]; exact a2
/-- the edges of a set -/
theorem mrp.edg {S : Stk} {Z : Mda} {G : Gr} {sf : Nat → Int32} {mw : Nat → Int64} (M : mrp S Z G) (I : sInv S) (F : fb sf mw S.P) {y l m : Nat} : (iE S (rowL S mw y) (rowL S mw y).length l m ∨ oS S mw y S.P l m) ↔ gEd sf (S.FC S.P) S.pc (kdS S) S.CF (lcS S) S.CL (nLn S) Z.on Z.tw y l m := by
  have hN := I.nlP
  constructor
  · rintro (⟨k, hk, hx⟩ | ⟨p, hp, hb, j, hj, h3, hy, ⟨x, hx, e⟩, x2, hx2, e2⟩)
    · have hr := (mrp.row I F).mp (getD_mem hk)
      generalize (rowL S mw y).getD k 0 = x at hx hr
      obtain ⟨r1, r2, r3⟩ := hr
      obtain ⟨g1, g2, g3, g4⟩ := I.lno r1
      obtain ⟨f1, f2, f3, f4⟩ := M.in2 I g1 g2
      have hq : x - S.CL (lcS S x) < nLn S (lcS S x) := by omega
      have ex : S.CL (lcS S x) + (x - S.CL (lcS S x)) = x := by omega
      have fq := f3 _ hq
      rw [ex] at fq
      have lp := (I.lnf g1 g2 hq).2.2.1
      rw [ex] at lp
      have la := I.last g1 g2 hq
      rw [ex] at la
      refine ⟨lcS S x, g1, r3, Or.inl ⟨(I.kdi g1 (by omega)).mpr g2, r2, ?_⟩⟩
      rcases hx with ⟨rfl, h | h⟩ | ⟨rfl, h1, h2, h3⟩
      · refine Or.inr (Or.inl ⟨?_, by omega, h.2.symm⟩)
        have : ¬ m - S.CL (lcS S m) = 0 := fun z => h.1 (by rw [lp, z]; rfl)
        omega
      · refine Or.inl ⟨by rw [fq.2.1]; exact h.2.1, h.2.2, ?_⟩
        have h5 := h.1
        rw [lp] at h5
        have := (nI_eq (a := m - S.CL (lcS S m)) (b := 0) (by omega) (by omega)).mp h5
        omega
      · have h5 := la.mp h1
        exact Or.inr (Or.inr ⟨by omega, by rw [fq.2.2]; exact h2, h3⟩)
    · have hc : S.FC p + j < S.FC S.P := by have := (I.bounds hp).1; omega
      have hpc := I.pca hp hj
      obtain ⟨x', l', a1, a2, a3, a4, a5, a6, a7⟩ := M.in34 I hc (Or.inr h3)
      obtain ⟨x2', m', b1, b2, b3, b4, b5, b6⟩ := a7 h3
      rw [hpc] at a1 b1
      have ex : x' = x := cnR.uniq (I.nd5 hp) a1 hx
      have ex2 : x2' = x2 := cnR.uniq (I.nd5 hp) b1 hx2
      have el : l' = l := by rw [a2, e, ex]
      have em : m' = m := by rw [b2, e2, ex2]
      rw [el] at a3 a4 a5
      rw [em] at b3 b4
      exact ⟨S.FC p + j, hc, by rw [hpc]; exact (F.one hp).mpr hb, Or.inr ⟨(I.kdi hc (by decide)).mpr h3, a3, by omega, b3, by omega, by rw [a5, a6, hy]⟩⟩
  · rintro ⟨c, hc, hs, h | ⟨hk, h1, h2, h3, h4, h5⟩⟩
    · obtain ⟨hk, hy, h⟩ := h
      have h2 := (I.kdi hc (by decide)).mp hk
      obtain ⟨f1, f2, f3, f4⟩ := M.in2 I hc h2
      obtain ⟨n1, n2⟩ := I.ln1 hc h2
      have mem : ∀ q, q < nLn S c → ∃ k, k < (rowL S mw y).length ∧ (rowL S mw y).getD k 0 = S.CL c + q := fun q hq => by
        obtain ⟨l1, l2, l3, l4, _⟩ := I.lnf hc h2 hq
        exact mem_getD ((mrp.row I F).mpr ⟨l4, by rw [l2]; exact hy, by rw [l2]; exact hs⟩)
      left
      rcases h with ⟨e1, e2, e3⟩ | ⟨e1, e2, e3⟩ | ⟨e1, e2, e3⟩
      · obtain ⟨k, hk1, hk2⟩ := mem 0 (by omega)
        have fq := (f3 0 (by omega)).2.1
        have lp := (I.lnf hc h2 (show 0 < nLn S c by omega)).2.2.1
        refine ⟨k, hk1, Or.inl ?_⟩
        rw [hk2]
        exact ⟨e3, Or.inr ⟨lp, by rw [← fq]; exact e1, e2⟩⟩
      · obtain ⟨k, hk1, hk2⟩ := mem (l + 1 - S.CL c) (by omega)
        have lp := (I.lnf hc h2 (show l + 1 - S.CL c < nLn S c by omega)).2.2.1
        rw [show S.CL c + (l + 1 - S.CL c) = l + 1 by omega] at hk2 lp
        refine ⟨k, hk1, Or.inl ?_⟩
        rw [hk2]
        refine ⟨e3, Or.inl ⟨fun z => ?_, rfl⟩⟩
        rw [lp] at z
        have := (nI_eq (a := l + 1 - S.CL c) (b := 0) (by omega) (by omega)).mp z
        omega
      · obtain ⟨k, hk1, hk2⟩ := mem (nLn S c - 1) (by omega)
        have fq := (f3 (nLn S c - 1) (by omega)).2.2
        have la := (I.last hc h2 (show nLn S c - 1 < nLn S c by omega)).mpr (by omega)
        rw [show S.CL c + (nLn S c - 1) = l by omega] at hk2 fq la
        refine ⟨k, hk1, Or.inr ?_⟩
        rw [hk2]
        exact ⟨rfl, la, by rw [← fq]; exact e2, e3⟩
    · have hk4 := (I.kdi hc (by decide)).mp hk
      obtain ⟨hp, j, hj, e⟩ := I.pcs hc
      obtain ⟨x', l', a1, a2, a3, a4, a5, a6, a7⟩ := M.in34 I hc (Or.inr hk4)
      obtain ⟨x2', m', b1, b2, b3, b4, b5, b6⟩ := a7 hk4
      have el : l' = l := (nI_eq (a := l') (b := l) (by omega) (by omega)).mp (a3.symm.trans h1)
      have em : m' = m := (nI_eq (a := m') (b := m) (by omega) (by omega)).mp (b3.symm.trans h3)
      rw [el] at a2 a5
      rw [em] at b2
      refine Or.inr ⟨S.pc c, hp, (F.one hp).mp hs, j, hj, by rw [← e]; exact hk4, ?_, ⟨x', ?_, ?_⟩, x2', ?_, ?_⟩
      · rw [← e, ← a6, ← a5, h5]
      · rw [← e]; exact a1
      · rw [← e]; exact a2
      · rw [← e]; exact b1
      · rw [← e]; exact b2
/-- a neighbour of a line of a closed set -/
theorem clo.up {S : Stk} {sf : Nat → Int32} {mw : Nat → Int64} (C : clo S mw) (I : sInv S) (F : fb sf mw S.P) {c k : Nat} {v : Int32} (hc : c < S.FC S.P) (hs : sf (S.pc c) = 1) (hf : ¬ S.f k = 0 → flR S.f (S.dp (S.pc c)) S.FC S.CA S.CF (S.pc c) (S.nd (S.pc c)) c (k + 1) (S.CF c)) (hv : upR S.f (S.dp (S.pc c)) S.FC S.CL (S.pc c) (S.nd (S.pc c)) c k v) : v = -1 ∨ ∃ x, v = nI x ∧ gIn sf (S.NLp S.P) S.pc S.CF (lcS S) (S.CF c) x := by
  rcases hv with ⟨_, h⟩ | ⟨h1, x, h2, h3⟩
  · exact Or.inl h
  · obtain ⟨hp, j, hj, e⟩ := I.pcs hc
    have hf1 := hf h1
    have h2' := h2
    rw [e, I.pca hp hj] at hf1 h2'
    obtain ⟨z, a1, a2, a3, a4, a5, a6, a7⟩ := I.lnr hp hj hf1
    have ez : z = x := cnR.uniq (I.nd5 hp) a1 h2'
    rw [ez] at a2 a3 a4 a5 a6 a7
    have hb := C.ref I hp hj ((F.one hp).mp hs) h2'
    refine Or.inr ⟨_, h3, a7, ?_, ?_⟩
    · rw [a6, a5, ← e]
    · rw [a6]; exact (F.one (I.pcs a2).1).mpr hb
end
section
/-! 99zzh.bridge5.lean.txt -/
theorem lnQ_flat {S : Stk} {y p : Nat} : ∀ j, lnQ S y p j = (seqL (S.FC p) j).flatMap (lcC S y)
  | 0 => rfl
  | j + 1 => by
    show lnQ S y p j ++ lcC S y (S.FC p + j) = (seqL (S.FC p) j ++ [S.FC p + j]).flatMap (lcC S y)
    rw [lnQ_flat j, List.flatMap_append, List.flatMap_cons, List.flatMap_nil, List.append_nil]
theorem lnU_flat {S : Stk} {mw : Nat → Int64} {y : Nat} : ∀ i, lnU S mw y i = (allU S mw i).flatMap (lcC S y)
  | 0 => rfl
  | i + 1 => by
    show lnU S mw y i ++ (if bt mw (S.BH i) = true then lnQ S y (S.BH i) (S.nT (S.BH i)) else []) = (allU S mw i ++ (if bt mw (S.BH i) = true then seqL (S.FC (S.BH i)) (S.nT (S.BH i)) else [])).flatMap (lcC S y)
    rw [lnU_flat i, List.flatMap_append]
    by_cases e : bt mw (S.BH i) = true
    · rw [if_pos e, if_pos e, lnQ_flat]
    · rw [if_neg e, if_neg e]; rfl
theorem seqL_pw : ∀ (n a : Nat), (seqL a n).Pairwise (fun x y => x < y)
  | 0, _ => List.Pairwise.nil
  | n + 1, a => by
    show (seqL a n ++ [a + n]).Pairwise _
    rw [List.pairwise_append]
    exact ⟨seqL_pw n a, List.pairwise_singleton _ _, fun x hx y hy => by rw [List.mem_singleton.mp hy]; exact (seqL_mem.mp hx).2⟩
theorem sInv.lcm {S : Stk} (I : sInv S) {y c x : Nat} (hc : c < S.FC S.P) (hx : x ∈ lcC S y c) : lcS S x = c := by
  obtain ⟨h1, h2, h3, h4⟩ := lcC_mem.mp hx
  have e := (I.lnf hc h1 (show x - S.CL c < nLn S c by omega)).2.1
  rw [show S.CL c + (x - S.CL c) = x by omega] at e
  exact e
/-- the lines of a graph come by key -/
theorem mrp.rowS {S : Stk} {Z : Mda} {G : Gr} (M : mrp S Z G) (I : sInv S) (mw : Nat → Int64) (y : Nat) : (rowL S mw y).Pairwise (fun a b => lkL G.H S.pc (lcS S) a b) := by
  unfold rowL
  rw [lnU_flat, List.pairwise_flatMap]
  refine ⟨fun c hc => ?_, ?_⟩
  · have h1 := (I.allu.mp hc).1
    have h2 : (lcC S y c).Pairwise (fun a b => a < b) := by
      unfold lcC
      by_cases e : inB S y c = true
      · rw [if_pos e]; exact seqL_pw _ _
      · rw [if_neg e]; exact List.Pairwise.nil
    refine List.Pairwise.imp_of_mem (fun {a b} ha hb hab => ?_) h2
    exact Or.inr ⟨by rw [I.lcm h1 ha, I.lcm h1 hb], hab⟩
  · refine List.Pairwise.imp_of_mem (fun {c d} hc hd hcd => ?_) (M.srtU I mw S.P (Nat.le_refl _))
    intro a ha b hb
    exact Or.inl (by rw [I.lcm (I.allu.mp hc).1 ha, I.lcm (I.allu.mp hd).1 hb]; exact hcd)
theorem mrp.rowN {S : Stk} {Z : Mda} {G : Gr} (M : mrp S Z G) (I : sInv S) (mw : Nat → Int64) (y : Nat) : (rowL S mw y).Nodup := by
  rw [List.nodup_iff_pairwise_ne]
  exact (M.rowS I mw y).imp (fun {a b} h e => by rw [e] at h; exact lkL.ir _ h)
/-- a list without doubles among the members of another is no longer -/
theorem nd_sub {A B : List Nat} (hA : A.Nodup) (h : ∀ x, x ∈ A → x ∈ B) : A.length ≤ B.length := by
  have key : ∀ x, x ∈ A → ∃ a, a < B.length ∧ B.getD a 0 = x := fun x hx => mem_getD (h x hx)
  have h1 : (A.map (fun x => Classical.epsilon (fun a => a < B.length ∧ B.getD a 0 = x))).Nodup := by
    rw [List.nodup_iff_pairwise_ne, List.pairwise_map]
    rw [List.nodup_iff_pairwise_ne] at hA
    refine List.Pairwise.imp_of_mem (fun {x y} hx hy hxy e => hxy ?_) hA
    have ex := Classical.epsilon_spec (key x hx)
    have ey := Classical.epsilon_spec (key y hy)
    rw [← ex.2, ← ey.2, e]
  have h2 := nd_len B.length _ h1 (fun z hz => by
    obtain ⟨x, hx, e⟩ := List.mem_map.mp hz
    rw [← e]
    exact (Classical.epsilon_spec (key x hx)).1)
  rw [List.length_map] at h2
  exact h2
theorem mrp.cap {S : Stk} {sf : Nat → Int32} {mw : Nat → Int64} (I : sInv S) (F : fb sf mw S.P) {y : Nat} (L : List Nat) (hn : L.Nodup) (h : ∀ x, x ∈ L → gIn sf (S.NLp S.P) S.pc S.CF (lcS S) y x) : L.length ≤ 400 := Nat.le_trans (nd_sub hn (fun x hx => (mrp.row I F).mpr (h x hx))) (I.rowl mw y)
/-- what a change of a closed set needs so that its edges can be laid -/
theorem mrp.edl {S : Stk} {Z : Mda} {G : Gr} {sf : Nat → Int32} {mw : Nat → Int64} (M : mrp S Z G) (I : sInv S) (F : fb sf mw S.P) (C : clo S mw) {y : Nat} : ∀ c, c < S.FC S.P → sf (S.pc c) = 1 → edL (kdS S) S.CF (lcS S) S.CL (nLn S) Z.so Z.fo Z.la Z.lc Z.on Z.tw Z.lh (gIn sf (S.NLp S.P) S.pc S.CF (lcS S) y) y c := fun c hc hs => by
  have hF := I.fcP
  have hN := I.nlP
  have hNF := I.nfP
  have hcf := I.cfl hc
  have hmv := (M.mv I).2.1 c hc
  obtain ⟨hp, j, hj, e⟩ := I.pcs hc
  refine ⟨by omega, hmv.2.2.1, hmv.2.2.2, fun hk => ?_, fun hk => ?_⟩
  · have h2 := (I.kdi hc (by decide)).mp hk
    obtain ⟨f1, f2, f3, f4⟩ := M.in2 I hc h2
    obtain ⟨n1, n2⟩ := I.ln1 hc h2
    refine ⟨f4, by omega, fun ey => ?_⟩
    have l0 := I.lnf hc h2 (show 0 < nLn S c by omega)
    have g0 := f3 0 (by omega)
    have hin : inR S.f (S.dp (S.pc c)) S.FC S.CA S.CF (S.pc c) (S.nd (S.pc c)) c (S.CA c) (S.CF c) := by
      have h4 := (I.pi _ hp).rs j hj
      rw [← e] at h4
      rcases h4 with h | h | h | h | h
      · rw [h2] at h; exact absurd h.1 (by decide)
      · rw [h2] at h; exact absurd h.1 (by decide)
      · exact h.2
      · rw [h2] at h; exact absurd h.1 (by decide)
      · rw [h2] at h; exact absurd h.1 (by decide)
    refine ⟨f1, f2, n1, by omega, fun x hx1 hx2 => ?_, ?_, ?_⟩
    · have lx := I.lnf hc h2 (show x - S.CL c < nLn S c by omega)
      rw [show S.CL c + (x - S.CL c) = x by omega] at lx
      exact ⟨lx.2.2.2.1, by rw [lx.2.1]; exact ey, by rw [lx.2.1]; exact hs⟩
    · have := C.up I F hc hs (k := S.CA c + 5) hin.2.1 (by rw [← g0.2.1] at l0; exact l0.2.2.2.2.1)
      rw [ey] at this
      exact this
    · have := C.up I F hc hs (k := plEnd S.f (S.CA c + 5)) hin.2.2 (by rw [← g0.2.2] at l0; exact l0.2.2.2.2.2)
      rw [ey] at this
      exact this
  · have hk' : S.f (S.CA c) = 3 ∨ S.f (S.CA c) = 4 := hk.imp (I.kdi hc (by decide)).mp (I.kdi hc (by decide)).mp
    obtain ⟨x, l, a1, a2, a3, a4, a5, a6, a7⟩ := M.in34 I hc hk'
    obtain ⟨b1, b2, b3, b4, b5, b6⟩ := M.lin I l a4
    have inn : ∀ k z w, cnR S.f (S.dp (S.pc c)) S.FC (S.pc c) (S.nd (S.pc c)) c k z → w < S.NLp S.P → lcS S w = z → S.CF z = y → gIn sf (S.NLp S.P) S.pc S.CF (lcS S) y w := fun k z w q1 q2 q3 q4 => by
      have hb : bt mw (S.pc z) = true := by
        rw [e, I.pca hp hj] at q1
        exact C.ref I hp hj ((F.one hp).mp hs) q1
      have hz : z < S.FC S.P := by rw [← q3]; exact (I.lno q2).1
      exact ⟨q2, by rw [q3]; exact q4, by rw [q3]; exact (F.one (I.pcs hz).1).mpr hb⟩
    refine ⟨l, a3, by omega, b1, b2, b3, b4, fun ey => ⟨inn _ x l a1 a4 a5 (by rw [← a5]; exact ey), fun k4 => ?_⟩⟩
    obtain ⟨x2, m, d1, d2, d3, d4, d5, d6⟩ := a7 ((I.kdi hc (by decide)).mp k4)
    refine ⟨m, d3, inn _ x2 m d1 d4 d5 ?_⟩
    rw [d6, ← a6, ← a5]; exact ey
end
section
/-! 99zzi.bridge6.lean.txt -/
/-- the lines that are left, by slots -/
def LFS (L : List Nat) (go : Nat → Int32) (l : Nat) : Prop := ∃ a, a < L.length ∧ L.getD a 0 = l ∧ go a = 0
theorem wtB_iff {re : Nat → Int64} {go : Nat → Int32} {a o : Nat} : wtB re go a o = true ↔ (go o = 0 ∧ befB re o a = true) := by
  unfold wtB
  rw [Bool.and_eq_true, beq_iff_eq]
theorem frB_iff {re : Nat → Int64} {go : Nat → Int32} {n a : Nat} : frB re go n a = true ↔ (go a = 0 ∧ wtN re go n a = 0) := by
  unfold frB
  rw [Bool.and_eq_true, beq_iff_eq, beq_iff_eq]
theorem nd_inj {L : List Nat} (h : L.Nodup) {a b : Nat} (ha : a < L.length) (hb : b < L.length) (e : L.getD a 0 = L.getD b 0) : a = b := by
  rw [List.nodup_iff_pairwise_ne, List.pairwise_iff_getElem] at h
  rw [List.getD_eq_getElem?_getD, List.getD_eq_getElem?_getD, List.getElem?_eq_getElem ha, List.getElem?_eq_getElem hb] at e
  have e : L[a] = L[b] := e
  rcases Nat.lt_trichotomy a b with z | z | z
  · exact absurd e (h a b ha hb z)
  · exact z
  · exact absurd e.symm (h b a hb ha z)
theorem frB_fr {Bf : Nat → Nat → Prop} {L : List Nat} {re : Nat → Int64} {go : Nat → Int32} (hB : ∀ a b, a < L.length → b < L.length → (befB re a b = true ↔ Bf (L.getD a 0) (L.getD b 0))) (hn : L.Nodup) {a : Nat} (ha : a < L.length) : frB re go L.length a = true ↔ frL Bf (LFS L go) (L.getD a 0) := by
  rw [frB_iff]
  constructor
  · rintro ⟨h1, h2⟩
    refine ⟨⟨a, ha, rfl, h1⟩, fun m hm z => ?_⟩
    obtain ⟨o, ho, e, hg⟩ := hm
    have : 0 < wtN re go L.length a := cnt_of ho (wtB_iff.mpr ⟨hg, (hB o a ho ha).mpr (by rw [e]; exact z)⟩)
    omega
  · rintro ⟨⟨b, hb, e, hg⟩, h2⟩
    have e1 := nd_inj hn hb ha e
    refine ⟨by rw [← e1]; exact hg, ?_⟩
    by_cases z : 0 < wtN re go L.length a
    · obtain ⟨o, ho, y⟩ := cnt_pos z
      obtain ⟨y1, y2⟩ := wtB_iff.mp y
      exact absurd ((hB o a ho ha).mp y2) (h2 _ ⟨o, ho, rfl, y1⟩)
    · omega
/-- a slot that is not gone, as a bit -/
def gzB (go : Nat → Int32) (a : Nat) : Bool := go a == 0
theorem grd_tk {Od Bf : Nat → Nat → Prop} {L : List Nat} {re : Nat → Int64} (hB : ∀ a b, a < L.length → b < L.length → (befB re a b = true ↔ Bf (L.getD a 0) (L.getD b 0))) (hn : L.Nodup) (ho : ∀ a b, a < b → b < L.length → Od (L.getD a 0) (L.getD b 0)) : ∀ (k : Nat) (go : Nat → Int32), cnt (gzB go) L.length ≤ k → tkS Od Bf (asL L (gL re L.length k go)) (gU re L.length k go) (LFS L go)
  | 0, go, hk => by
    rw [(gL_zero re L.length go).1, (gL_zero re L.length go).2]
    refine ⟨rfl, fun l hl => ?_⟩
    obtain ⟨a, ha, _, hg⟩ := hl.1
    have : 0 < cnt (gzB go) L.length := cnt_of ha (by unfold gzB; rw [hg]; rfl)
    omega
  | k + 1, go, hk => by
    cases e : lfO (frB re go L.length) L.length with
    | none =>
      rw [(gL_none e (by omega)).1, (gL_none e (by omega)).2]
      refine ⟨rfl, fun l hl => ?_⟩
      obtain ⟨a, ha, ea, _⟩ := hl.1
      rw [← ea] at hl
      have h1 := (frB_fr hB hn ha).mpr hl
      rw [lfO_none e a ha] at h1
      cases h1
    | some a =>
      obtain ⟨s1, s2, s3⟩ := lfO_spec e
      have hg := (frB_iff.mp s2).1
      have e1 : ∀ i, gzB (upd go a 1) i = (gzB go i && !decide (i = a)) := fun i => by
        unfold gzB
        by_cases z : i = a
        · subst z; rw [upd_eq]; simp
        · rw [upd_ne _ z]; simp [z]
      have e2 : gzB go a = true := by unfold gzB; rw [hg]; rfl
      have h3 := cnt_un e1 e2 L.length
      rw [if_pos s1] at h3
      have ih := grd_tk hB hn ho k (upd go a 1) (by omega)
      rw [(gL_some e (by omega)).1, (gL_some e (by omega)).2, Nat.add_sub_cancel]
      have key : ∀ y, frL Bf (LFS L go) y → ∃ b, b < L.length ∧ L.getD b 0 = y ∧ frB re go L.length b = true := fun y hy => by
        obtain ⟨b, hb, eb, _⟩ := hy.1
        exact ⟨b, hb, eb, (frB_fr hB hn hb).mpr (by rw [eb]; exact hy)⟩
      refine ⟨(frB_fr hB hn s1).mp s2, fun y hy => ?_, gU re L.length k (upd go a 1), ih.congr (fun l => ?_), ?_⟩
      · obtain ⟨b, hb, eb, hf⟩ := key y hy
        rcases Nat.lt_trichotomy b a with z | z | z
        · rw [s3 b z] at hf; cases hf
        · exact Or.inl (by rw [← eb, z])
        · exact Or.inr (by rw [← eb]; exact ho a b z hb)
      · constructor
        · rintro ⟨b, hb, eb, hgb⟩
          have hne : ¬ b = a := fun z => by rw [z, upd_eq] at hgb; exact absurd hgb (by decide)
          rw [upd_ne _ hne] at hgb
          exact ⟨⟨b, hb, eb, hgb⟩, fun z => hne (nd_inj hn hb s1 (eb.trans z))⟩
        · rintro ⟨⟨b, hb, eb, hgb⟩, hne⟩
          exact ⟨b, hb, eb, by rw [upd_ne _ (fun z => hne (by rw [← eb, z]))]; exact hgb⟩
      · by_cases c : 2 ≤ cnt (frB re go L.length) L.length
        · rw [if_pos c]
          obtain ⟨y, hy, h1, h2⟩ := (cnt2 s1 s2).mp (by omega)
          exact Or.inl ⟨⟨L.getD y 0, (frB_fr hB hn hy).mp h1, fun z => h2 (nd_inj hn hy s1 z)⟩, rfl⟩
        · rw [if_neg c]
          refine Or.inr ⟨fun y hy => ?_, rfl⟩
          obtain ⟨b, hb, eb, hf⟩ := key y hy
          by_cases z : b = a
          · rw [← eb, z]
          · exact absurd ((cnt2 s1 s2).mpr ⟨b, hb, hf, z⟩) (by omega)
/-- the text of the class is taken as the reference takes it -/
theorem mrp.txt {S : Stk} {Z : Mda} {G : Gr} {sf : Nat → Int32} {mw : Nat → Int64} (M : mrp S Z G) (I : sInv S) (F : fb sf mw S.P) (C : clo S mw) {y : Nat} {re : Nat → Int64} {go : Nat → Int32} (hb : bR re (rowL S mw y).length (pth (edG S mw y) 0 (rowL S mw y).length)) (hg : gR go (rowL S mw y) (deG S mw y)) : tkS (lkL G.H S.pc (lcS S)) (Bfr (pth (gEd sf (S.FC S.P) S.pc (kdS S) S.CF (lcS S) S.CL (nLn S) Z.on Z.tw y) 0 4000)) (asL (rowL S mw y) (gL re (rowL S mw y).length ((rowL S mw y).length - dnG S mw y) go)) (gU re (rowL S mw y).length ((rowL S mw y).length - dnG S mw y) go) (fun l => gIn sf (S.NLp S.P) S.pc S.CF (lcS S) y l ∧ ¬ gDe sf (S.FC S.P) S.pc (kdS S) S.CF (lcS S) Z.on y l) := by
  have hN := I.nlP
  have hrow : ∀ {x}, x ∈ rowL S mw y ↔ gIn sf (S.NLp S.P) S.pc S.CF (lcS S) y x := fun {x} => mrp.row I F
  have h4 := I.rowl mw y
  have hW : ∀ a b, b < (rowL S mw y).length → (pth (edG S mw y) 0 (rowL S mw y).length a b ↔ pth (gEd sf (S.FC S.P) S.pc (kdS S) S.CF (lcS S) S.CL (nLn S) Z.on Z.tw y) 0 4000 ((rowL S mw y).getD a 0) ((rowL S mw y).getD b 0)) := fun a b hbl => by
    rw [← pth_map (ML := rowL S mw y) (fun x hx => by have := (hrow.mp hx).1; omega) (fun l m ⟨c, c1, c2, c3⟩ => hrow.mpr ((M.edl I F C c c1 c2).inn (fun x hx => by have := hx.1; omega) c3).2) hbl]
    have e : ∀ k a b, b < (rowL S mw y).length → (ptN (edG S mw y) 0 (rowL S mw y).length k a b ↔ ptN (fun i j => gEd sf (S.FC S.P) S.pc (kdS S) S.CF (lcS S) S.CL (nLn S) Z.on Z.tw y ((rowL S mw y).getD i 0) ((rowL S mw y).getD j 0)) 0 (rowL S mw y).length k a b) := fun k => by
      induction k with
      | zero => intro a b hb; exact ⟨fun z => (M.edg I F).mp z.2, fun z => ⟨hb, (M.edg I F).mpr z⟩⟩
      | succ k ih =>
        intro a b hb
        constructor
        · rintro ⟨v, v1, v2, v3, v4⟩
          exact ⟨v, v1, v2, (M.edg I F).mp v3.2, (ih v b hb).mp v4⟩
        · rintro ⟨v, v1, v2, v3, v4⟩
          exact ⟨v, v1, v2, ⟨v2, (M.edg I F).mpr v3⟩, (ih v b hb).mpr v4⟩
    exact ⟨fun ⟨k, z⟩ => ⟨k, (e k a b hbl).mp z⟩, fun ⟨k, z⟩ => ⟨k, (e k a b hbl).mpr z⟩⟩
  have hB : ∀ a b, a < (rowL S mw y).length → b < (rowL S mw y).length → (befB re a b = true ↔ Bfr (pth (gEd sf (S.FC S.P) S.pc (kdS S) S.CF (lcS S) S.CL (nLn S) Z.on Z.tw y) 0 4000) ((rowL S mw y).getD a 0) ((rowL S mw y).getD b 0)) := fun a b ha hbl => by
    unfold befB Bfr
    rw [Bool.and_eq_true, Bool.not_eq_true', hb a b ha (by omega), hW a b hbl, ← hW b a ha, ← hb b a hbl (by omega), Bool.not_eq_true]
  have hdn : cnt (gzB go) (rowL S mw y).length ≤ (rowL S mw y).length - dnG S mw y := by
    have h1 : ∀ n, n ≤ (rowL S mw y).length → cnt (gzB go) n + cnt (dB (rowL S mw y) (deG S mw y)) n = n := fun n => by
      induction n with
      | zero => intro _; rfl
      | succ n ih =>
        intro hn
        have h2 := ih (by omega)
        rcases hg n (by omega) with ⟨z1, z2⟩ | ⟨z1, z2⟩
        · have e1 : ¬ gzB go n = true := by unfold gzB; rw [z1]; decide
          have e2 : dB (rowL S mw y) (deG S mw y) n = true := dB_iff.mpr z2
          rw [← cnt_no e1, ← cnt_yes e2]; omega
        · have e1 : gzB go n = true := by unfold gzB; rw [z1]; rfl
          have e2 : ¬ dB (rowL S mw y) (deG S mw y) n = true := fun z => z2 (dB_iff.mp z)
          rw [← cnt_yes e1, ← cnt_no e2]; omega
    have := h1 _ (Nat.le_refl _)
    unfold dnG
    omega
  have hp := M.rowS I mw y
  rw [List.pairwise_iff_getElem] at hp
  refine (grd_tk (Od := lkL G.H S.pc (lcS S)) hB (M.rowN I mw y) (fun a b hab hbl => ?_) _ go hdn).congr (fun l => ?_)
  · have := hp a b (by omega) hbl hab
    rw [List.getD_eq_getElem?_getD, List.getD_eq_getElem?_getD, List.getElem?_eq_getElem hbl, List.getElem?_eq_getElem (show a < (rowL S mw y).length by omega)]
    exact this
  · rw [← hrow, ← M.del I F]
    constructor
    · rintro ⟨a, ha, e, hz⟩
      rcases hg a ha with ⟨z1, z2⟩ | ⟨z1, z2⟩
      · rw [hz] at z1; exact absurd z1 (by decide)
      · rw [e] at z2; exact ⟨by rw [← e]; exact getD_mem ha, z2⟩
    · rintro ⟨h1, h2⟩
      obtain ⟨a, ha, e⟩ := mem_getD h1
      rcases hg a ha with ⟨z1, z2⟩ | ⟨z1, z2⟩
      · rw [e] at z2; exact absurd z2 h2
      · exact ⟨a, ha, e, z1⟩
/-- both take the same lines, and are unsure as often -/
theorem mrp.same {S : Stk} {Z : Mda} {G : Gr} {sf : Nat → Int32} {mw : Nat → Int64} (M : mrp S Z G) (I : sInv S) (F : fb sf mw S.P) (C : clo S mw) {y : Nat} {re : Nat → Int64} {go : Nat → Int32} {T : List Nat} {U : Nat} (hb : bR re (rowL S mw y).length (pth (edG S mw y) 0 (rowL S mw y).length)) (hg : gR go (rowL S mw y) (deG S mw y)) (ht : tkS (lkL G.H S.pc (lcS S)) (Bfr (pth (gEd sf (S.FC S.P) S.pc (kdS S) S.CF (lcS S) S.CL (nLn S) Z.on Z.tw y) 0 4000)) T U (fun l => gIn sf (S.NLp S.P) S.pc S.CF (lcS S) y l ∧ ¬ gDe sf (S.FC S.P) S.pc (kdS S) S.CF (lcS S) Z.on y l)) : T = asL (rowL S mw y) (gL re (rowL S mw y).length ((rowL S mw y).length - dnG S mw y) go) ∧ U = gU re (rowL S mw y).length ((rowL S mw y).length - dnG S mw y) go := ht.uniq (fun a b h1 h2 => lkL.ir _ (lkL.tr _ _ _ h1 h2)) (M.txt I F C hb hg)
end
