/-! 99zzf.bridge3.lean.txt -/
/-- each line is a line of an insert -/
theorem sInv.lnx {S : Stk} (I : sInv S) {l : Nat} : ∀ n, n ≤ S.P → l < S.NLp n → ∃ p j, p < n ∧ j < S.nT p ∧ S.f (S.CA (S.FC p + j)) = 2 ∧ S.CL (S.FC p + j) ≤ l ∧ l < S.CL (S.FC p + j) + nLn S (S.FC p + j)
  | 0, _, h => by rw [I.nl0] at h; exact absurd h (Nat.not_lt_zero _)
  | n + 1, hn, h => by
    by_cases e : l < S.NLp n
    · obtain ⟨p, j, h1, h2⟩ := I.lnx n (by omega) e
      exact ⟨p, j, by omega, h2⟩
    · rw [(I.pi n (by omega)).nl] at h
      have key : ∀ m, m ≤ S.nT n → l < NLs S.f S.CA (S.FC n) (S.NLp n) m → ∃ j, j < m ∧ S.f (S.CA (S.FC n + j)) = 2 ∧ NLs S.f S.CA (S.FC n) (S.NLp n) j ≤ l ∧ l < NLs S.f S.CA (S.FC n) (S.NLp n) j + nLn S (S.FC n + j) := fun m => by
        induction m with
        | zero => intro _ h2; exact absurd h2 e
        | succ m ih =>
          intro hm h2
          by_cases e2 : l < NLs S.f S.CA (S.FC n) (S.NLp n) m
          · obtain ⟨j, h3, h4⟩ := ih (by omega) e2
            exact ⟨j, by omega, h4⟩
          · by_cases e3 : S.f (S.CA (S.FC n + m)) = 2
            · rw [NLs_eq e3] at h2
              exact ⟨m, by omega, e3, by omega, h2⟩
            · rw [NLs_ne e3] at h2
              exact absurd h2 e2
      obtain ⟨j, h3, h4, h5, h6⟩ := key _ (Nat.le_refl _) h
      rw [← (I.pi n (by omega)).cl j h3] at h5 h6
      exact ⟨n, j, by omega, h3, h4, h5, h6⟩
/-- the change of a line -/
def lcS (S : Stk) (l : Nat) : Nat := (S.lc l).toNatClampNeg
/-- what is known of the lines of an insert -/
theorem sInv.lnf {S : Stk} (I : sInv S) {c q : Nat} (hc : c < S.FC S.P) (h2 : S.f (S.CA c) = 2) (hq : q < nLn S c) : S.lc (S.CL c + q) = nI c ∧ lcS S (S.CL c + q) = c ∧ S.lp (S.CL c + q) = nI q ∧ S.CL c + q < S.NLp S.P ∧ upR S.f (S.dp (S.pc c)) S.FC S.CL (S.pc c) (S.nd (S.pc c)) c (S.CA c + 5) (S.lu (S.CL c + q)) ∧ upR S.f (S.dp (S.pc c)) S.FC S.CL (S.pc c) (S.nd (S.pc c)) c (plEnd S.f (S.CA c + 5)) (S.ld (S.CL c + q)) := by
  obtain ⟨p, j, h1, hj, h3⟩ := I.own (Nat.le_refl _) hc
  have hpc : S.pc c = p := by rw [h3]; exact I.pca h1 hj
  have h4 := (I.pi p h1).li j hj (by rw [← h3]; exact h2)
  rw [← h3] at h4
  obtain ⟨g1, g2, g3, g4, g5, g6⟩ := h4 q hq
  have hF := I.fcP
  have h5 := I.cle h1 hj (by rw [← h3]; exact h2)
  rw [← h3] at h5
  have h6 := NLs_mono S.f S.CA (S.FC p) (S.NLp p) (i := j + 1) (j := S.nT p) (by omega)
  rw [← (I.pi p h1).nl] at h6
  have h7 := I.nlm (i := p + 1) (k := S.P) (by omega) (Nat.le_refl _)
  rw [hpc]
  exact ⟨g3, by unfold lcS; rw [g3]; exact nI_clamp (by omega), g4, by omega, g5, g6⟩
theorem sInv.lno {S : Stk} (I : sInv S) {l : Nat} (hl : l < S.NLp S.P) : lcS S l < S.FC S.P ∧ S.f (S.CA (lcS S l)) = 2 ∧ S.CL (lcS S l) ≤ l ∧ l < S.CL (lcS S l) + nLn S (lcS S l) := by
  obtain ⟨p, j, h1, h2, h3, h4, h5⟩ := I.lnx S.P (Nat.le_refl _) hl
  have hc : S.FC p + j < S.FC S.P := by have := (I.bounds h1).1; omega
  have e := (I.lnf hc h3 (show l - S.CL (S.FC p + j) < nLn S (S.FC p + j) by omega)).2.1
  rw [show S.CL (S.FC p + j) + (l - S.CL (S.FC p + j)) = l by omega] at e
  rw [e]
  exact ⟨hc, h3, h4, h5⟩
theorem sInv.ln1 {S : Stk} (I : sInv S) {c : Nat} (hc : c < S.FC S.P) (h2 : S.f (S.CA c) = 2) : 1 ≤ nLn S c ∧ S.CL c + nLn S c ≤ S.NLp S.P := by
  obtain ⟨p, j, h1, hj, h3⟩ := I.own (Nat.le_refl _) hc
  have h4 := I.chg h1 hj
  rw [← h3] at h4
  have k1 : 1 ≤ nLn S c := by
    rcases h4 with h | h | h | h | h
    · rw [h2] at h; exact absurd h.1 (by decide)
    · rw [h2] at h; exact absurd h.1 (by decide)
    · obtain ⟨q1, q2, g1, g2, g3, g4, _⟩ := h.2
      have e : lnAt S.f (S.CA c) = q2 := by
        unfold lnAt
        rw [g1.end, g2.end]
      unfold nLn
      rw [e]; exact g4
    · rw [h2] at h; exact absurd h.1 (by decide)
    · rw [h2] at h; exact absurd h.1 (by decide)
  have := (I.lnf hc h2 (show nLn S c - 1 < nLn S c by omega)).2.2.2.1
  exact ⟨k1, by omega⟩
theorem upR.uniq {f : Nat → Int32} {DP FC CL : Nat → Nat} {P nd cc k : Nat} {v w : Int32} (hn : nd ≤ 2048) (h1 : upR f DP FC CL P nd cc k v) (h2 : upR f DP FC CL P nd cc k w) : v = w := by
  rcases h1 with ⟨a1, a2⟩ | ⟨a1, x, a2, a3⟩
  · rcases h2 with ⟨b1, b2⟩ | ⟨b1, _⟩
    · rw [a2, b2]
    · exact absurd a1 b1
  · rcases h2 with ⟨b1, _⟩ | ⟨b1, y, b2, b3⟩
    · exact absurd b1 a1
    · rw [a3, b3, cnR.uniq hn a2 b2]
/-- the reference's rows of an insert -/
theorem mrp.in2 {S : Stk} {Z : Mda} {G : Gr} (M : mrp S Z G) (I : sInv S) {c : Nat} (hc : c < S.FC S.P) (h2 : S.f (S.CA c) = 2) : Z.la c = nI (S.CL c) ∧ Z.lc c = nI (nLn S c) ∧ (∀ q, q < nLn S c → Z.lh (S.CL c + q) = nI c ∧ Z.on c = S.lu (S.CL c + q) ∧ Z.tw c = S.ld (S.CL c + q)) ∧ Z.fo c = nI (S.CF c) := by
  obtain ⟨p, j, h1, hj, h3, hpc, h5, o, h6⟩ := M.ch I hc
  obtain ⟨g1, g2, g3, g4, g5⟩ := h6.2.2.2.2.1 h2
  refine ⟨g1, g2, fun q hq => ?_, M.2.2.2.2.2.2.1.2.1 c hc (Or.inr (Or.inr h2))⟩
  obtain ⟨l1, l2, l3, l4, l5, l6⟩ := I.lnf hc h2 hq
  have hN := I.nlP
  rw [hpc] at l5 l6
  exact ⟨(g5 q hq (by omega)).1, upR.uniq (I.nd5 h1) g3 l5, upR.uniq (I.nd5 h1) g4 l6⟩
theorem mrp.lin {S : Stk} {Z : Mda} {G : Gr} (M : mrp S Z G) (I : sInv S) : ∀ l, l < S.NLp S.P → Z.lh l = nI (lcS S l) ∧ lcS S l < 38000 ∧ Z.fo (lcS S l) = nI (S.CF (lcS S l)) ∧ S.CF (lcS S l) < 40000 ∧ Z.of (lcS S l) = nI (S.pc (lcS S l)) ∧ S.pc (lcS S l) < S.P := fun l hl => by
  obtain ⟨h1, h2, h3, h4⟩ := I.lno hl
  obtain ⟨g1, g2, g3, g4⟩ := M.in2 I h1 h2
  have h5 := (g3 (l - S.CL (lcS S l)) (by omega)).1
  rw [show S.CL (lcS S l) + (l - S.CL (lcS S l)) = l by omega] at h5
  have hF := I.fcP
  have h6 := (M.mv I).2.1 _ h1
  have h7 := I.cfl h1
  have h8 := I.nfP
  exact ⟨h5, by omega, g4, by omega, h6.1, (I.pcs h1).1⟩
/-- the lines of a graph -/
theorem mrp.row {S : Stk} {sf : Nat → Int32} {mw : Nat → Int64} (I : sInv S) (F : fb sf mw S.P) {y x : Nat} : x ∈ rowL S mw y ↔ gIn sf (S.NLp S.P) S.pc S.CF (lcS S) y x := by
  unfold rowL
  rw [lnU_mem]
  constructor
  · rintro ⟨k, j, h1, h2, h3, h4⟩
    obtain ⟨g1, g2, g3, g4⟩ := lcC_mem.mp h4
    have hb := I.bh k h1
    have hc : S.FC (S.BH k) + j < S.FC S.P := by have := (I.bounds hb).1; omega
    obtain ⟨l1, l2, l3, l4, _⟩ := I.lnf hc g1 (show x - S.CL (S.FC (S.BH k) + j) < nLn S (S.FC (S.BH k) + j) by omega)
    rw [show S.CL (S.FC (S.BH k) + j) + (x - S.CL (S.FC (S.BH k) + j)) = x by omega] at l2 l4
    exact ⟨l4, by rw [l2]; exact g2, by rw [l2, I.pca hb h3]; exact (F.one hb).mpr h2⟩
  · rintro ⟨h1, h2, h3⟩
    obtain ⟨g1, g2, g3, g4⟩ := I.lno h1
    obtain ⟨hp, j, hj, e⟩ := I.pcs g1
    obtain ⟨k, hk, ek⟩ := I.sur _ hp
    exact ⟨k, j, hk, by rw [ek]; exact (F.one hp).mp h3, by rw [ek]; exact hj, lcC_mem.mpr (by rw [ek, ← e]; exact ⟨g2, h2, g3, g4⟩)⟩
/-- the last line of an insert -/
theorem sInv.last {S : Stk} (I : sInv S) {c q : Nat} (hc : c < S.FC S.P) (h2 : S.f (S.CA c) = 2) (hq : q < nLn S c) : lastL S (S.CL c + q) ↔ q + 1 = nLn S c := by
  constructor
  · intro h
    rcases Nat.lt_or_ge (q + 1) (nLn S c) with z | z
    · obtain ⟨l1, l2, l3, l4, _⟩ := I.lnf hc h2 z
      rcases h with h | h
      · omega
      · rw [Nat.add_assoc, l3] at h
        have h4 := I.nlP
        have := (nI_eq (a := q + 1) (b := 0) (by omega) (by omega)).mp h
        omega
    · omega
  · intro h
    rcases Nat.lt_or_ge (S.CL c + q + 1) (S.NLp S.P) with z | z
    · right
      obtain ⟨g1, g2, g3, g4⟩ := I.lno z
      obtain ⟨l1, l2, l3, l4, _⟩ := I.lnf g1 g2 (show S.CL c + q + 1 - S.CL (lcS S (S.CL c + q + 1)) < nLn S (lcS S (S.CL c + q + 1)) by omega)
      rw [show S.CL (lcS S (S.CL c + q + 1)) + (S.CL c + q + 1 - S.CL (lcS S (S.CL c + q + 1))) = S.CL c + q + 1 by omega] at l3
      rw [l3]
      have e : S.CL c + q + 1 - S.CL (lcS S (S.CL c + q + 1)) = 0 := by
        rcases Nat.eq_zero_or_pos (S.CL c + q + 1 - S.CL (lcS S (S.CL c + q + 1))) with y | y
        · exact y
        · have := I.cldj hc g1 h2 g2 (x := S.CL c + q) (by omega) (by omega)
          rw [← this] at g4
          omega
      rw [e]; rfl
    · exact Or.inl z
/-- a line that a ref names -/
theorem sInv.lnr {S : Stk} (I : sInv S) {p j k y : Nat} (hp : p < S.P) (hj : j < S.nT p) (h : flR S.f (S.dp p) S.FC S.CA S.CF p (S.nd p) (S.FC p + j) k y) : ∃ x, cnR S.f (S.dp p) S.FC p (S.nd p) (S.FC p + j) k x ∧ x < S.FC S.P ∧ S.f (S.CA x) = 2 ∧ tw S.f (k + 4) < nLn S x ∧ S.CF x = y ∧ lcS S (S.CL x + tw S.f (k + 4)) = x ∧ S.CL x + tw S.f (k + 4) < S.NLp S.P := by
  obtain ⟨x, h1, h2, h3, h4, h5⟩ := I.lref hp h
  have hb := (I.bounds hp).1
  have hx : x < S.FC S.P := by omega
  obtain ⟨l1, l2, l3, l4, _⟩ := I.lnf hx h3 h4
  exact ⟨x, h1, hx, h3, h4, h5, l2, l4⟩
/-- what a closed set names is in it -/
theorem clo.ref {S : Stk} {mw : Nat → Int64} (C : clo S mw) (I : sInv S) {p j k x : Nat} (hp : p < S.P) (hj : j < S.nT p) (hb : bt mw p = true) (h : cnR S.f (S.dp p) S.FC p (S.nd p) (S.FC p + j) k x) : bt mw (S.pc x) = true := by
  rcases h with ⟨h1, h2, h3⟩ | ⟨h1, h2, h3⟩
  · rw [h2, I.pca hp (by omega)]; exact hb
  · have hd := ((I.pi p hp).dep _ h1).1
    have hq : S.dp p (tw S.f k) < S.P := by omega
    have h4 := (I.pi _ hq).fc
    have hP := I.hP
    rw [h2, I.pca hq (by omega)]
    exact C p hp hb _ (by omega) (((I.pi p hp).ln _ (by omega)).mpr ⟨_, h1, Or.inl rfl⟩)

