/-! 99zzw.leans.lean.txt -/
/-- patch a leans on patch b -/
def loS (S : Stk) (a b : Nat) : Prop := b < 512 ∧ btr S.lo (a * 8) b = true
theorem sInv.loR {S : Stk} (I : sInv S) : loR S.P (loS S) S.FD S.DP := by
  have hP := I.hP
  have key : ∀ p, p < S.P → ∀ k, S.FD p ≤ k → k < S.FD (p + 1) → k - S.FD p < S.nd p ∧ S.dp p (k - S.FD p) = S.DP k := fun p hp k h1 h2 => by
    rw [(I.pi p hp).fd] at h2
    refine ⟨by omega, ?_⟩
    show S.DP (S.FD p + (k - S.FD p)) = S.DP k
    rw [show S.FD p + (k - S.FD p) = k by omega]
  refine ⟨fun p hp k h1 h2 => ?_, fun p hp x => ?_⟩
  · obtain ⟨z1, z2⟩ := key p hp k h1 h2
    rw [← z2]
    exact ((I.pi p hp).dep _ z1).1
  · constructor
    · rintro ⟨h1, h2⟩
      obtain ⟨k, hk, h3⟩ := ((I.pi p hp).ln x h1).mp h2
      refine ⟨S.FD p + k, by omega, by rw [(I.pi p hp).fd]; omega, ?_⟩
      rcases h3 with h3 | h3
      · exact Or.inl h3.symm
      · exact Or.inr ⟨h1, h3⟩
    · rintro ⟨k, h1, h2, h3⟩
      obtain ⟨z1, z2⟩ := key p hp k h1 h2
      have hd := ((I.pi p hp).dep _ z1).1
      rw [z2] at hd
      rcases h3 with h3 | ⟨h3, h4⟩
      · have hx : x < 512 := by omega
        exact ⟨hx, ((I.pi p hp).ln x hx).mpr ⟨_, z1, Or.inl (by rw [z2]; exact h3.symm)⟩⟩
      · exact ⟨h3, ((I.pi p hp).ln x h3).mpr ⟨_, z1, Or.inr (by rw [z2]; exact h4)⟩⟩
theorem gnR_lo {S : Stk} (I : sInv S) {sf on : Nat → Int32} {p : Nat} {v : Int32} (hp : p < S.P) : gnR sf (S.FC S.P) S.pc (kdS S) on (loS S) p v ↔ gnR sf (S.FC S.P) S.pc (kdS S) on (fun a b => btr S.lo (a * 8) b = true) p v := by
  have hP := I.hP
  constructor
  · rintro ⟨c, h1, h2, h3, h4, h5, h6, h7⟩
    have hq := (I.pcs h1).1
    exact ⟨c, h1, h2, h3, h4, h5, fun z => h6 ⟨by omega, z⟩, fun z => h7 ⟨by omega, z⟩⟩
  · rintro ⟨c, h1, h2, h3, h4, h5, h6, h7⟩
    exact ⟨c, h1, h2, h3, h4, h5, fun z => h6 z.2, fun z => h7 z.2⟩
theorem sdB_lo {S : Stk} (I : sInv S) {sf on tw9 de : Nat → Int32} {MB : Nat → Nat} {n : Nat} (h : ∀ a, a < n → lcS S (MB a) < S.FC S.P) : cnt (sdB sf (S.FC S.P) S.pc (kdS S) (lcS S) MB on tw9 de (loS S)) n = cnt (sdB sf (S.FC S.P) S.pc (kdS S) (lcS S) MB on tw9 de (fun a b => btr S.lo (a * 8) b = true)) n := by
  refine cnt_congr n (fun a ha => ?_)
  have hp := (I.pcs (h a ha)).1
  rw [Bool.eq_iff_iff, sdB_iff, sdB_iff, gnR_lo I hp, gnR_lo I hp]
/-- the reference's rows of dependencies -/
theorem mrp.dep {S : Stk} {Z : Mda} {G : Gr} (M : mrp S Z G) (I : sInv S) : (∀ i, i ≤ S.P → Z.da i = nI (S.FD i) ∧ S.FD i ≤ S.FD S.P) ∧ (∀ i, i < S.P → S.FD i ≤ S.FD (i + 1)) ∧ S.FD S.P ≤ 6300 ∧ ∀ k, k < S.FD S.P → Z.ds k = nI (S.DP k) ∧ S.DP k < 500 := by
  have hP := I.hP
  have h32 := I.fd32 S.P (Nat.le_refl _)
  have hF := I.frP
  refine ⟨fun i hi => ⟨(M.2.2.1 i hi).1, I.fdm hi (Nat.le_refl _)⟩, fun i hi => I.fdm (by omega) (by omega), by omega, fun k hk => ⟨M.2.2.2.1 k hk, ?_⟩⟩
  have own : ∀ n, n ≤ S.P → k < S.FD n → ∃ p, p < n ∧ S.FD p ≤ k ∧ k < S.FD (p + 1) := fun n => by
    induction n with
    | zero => intro _ z; rw [I.fd0] at z; exact absurd z (Nat.not_lt_zero _)
    | succ n ih =>
      intro hn z
      by_cases e : k < S.FD n
      · obtain ⟨p, h1, h2⟩ := ih (by omega) e
        exact ⟨p, by omega, h2⟩
      · exact ⟨n, by omega, by omega, z⟩
  obtain ⟨p, h1, h2, h3⟩ := own S.P (Nat.le_refl _) hk
  have := I.loR.1 p h1 k h2 h3
  omega

