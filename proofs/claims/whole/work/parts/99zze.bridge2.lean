/-! 99zze.bridge2.lean.txt -/
theorem srt_pw {R : Nat → Nat → Prop} {L : List Nat} : srt R L ↔ L.Pairwise (fun a b => R b a) := by
  rw [List.pairwise_iff_getElem]
  constructor
  · intro h i j hi hj hij
    have h1 := h i j hij hj
    rw [List.getD_eq_getElem?_getD, List.getD_eq_getElem?_getD, List.getElem?_eq_getElem hj, List.getElem?_eq_getElem hi] at h1
    exact h1
  · intro h i j hij hj
    rw [List.getD_eq_getElem?_getD, List.getD_eq_getElem?_getD, List.getElem?_eq_getElem hj, List.getElem?_eq_getElem (show i < L.length by omega)]
    exact h i j (by omega) hj hij
/-- a name is there if it is not empty -/
theorem sInv.nsn {S : Stk} (I : sInv S) {c : Nat} (hc : c < S.FC S.P) (hk : S.f (S.CA c) = 0 ∨ S.f (S.CA c) = 1) : ¬ nsS S c = 0 ↔ isNm S.f (S.CA c) := by
  have h1 := I.nmw hc hk
  rcases hk with z | z
  · refine ⟨fun _ => Or.inl z, fun _ e => ?_⟩
    obtain ⟨p, j, p1, p2, p3⟩ := I.own (Nat.le_refl _) hc
    have h4 := I.chg p1 p2
    rw [← p3] at h4
    rcases h4 with h | h | h | h | h
    · have e1 : nmAt S.f (S.CA c) = S.CA c + 5 := if_pos h.1
      obtain ⟨g1, n, g2, g3, g4, _⟩ := h.2
      rw [← e1, h1.2.1, e] at g4
      exact g4 (by decide)
    · rw [z] at h; exact absurd h.1 (by decide)
    · rw [z] at h; exact absurd h.1 (by decide)
    · rw [z] at h; exact absurd h.1 (by decide)
    · rw [z] at h; exact absurd h.1 (by decide)
  · constructor
    · intro e
      refine Or.inr ⟨z, fun y => e ?_⟩
      rw [h1.2.1] at y
      exact (nI_eq (a := nsS S c) (b := 0) (by omega) (by omega)).mp y
    · rintro (y | y) e
      · rw [z] at y; exact absurd y (by decide)
      · exact y.2 (by rw [h1.2.1, e]; rfl)
theorem sInv.nd5 {S : Stk} (I : sInv S) {p : Nat} (hp : p < S.P) : S.nd p ≤ 2048 := by
  have := (I.bounds hp).2.2.2.1
  omega
/-- what is over a naming, in the rows of the reference -/
theorem mrp.ovs {S : Stk} {Z : Mda} {G : Gr} {sf : Nat → Int32} {mw : Nat → Int64} (M : mrp S Z G) (I : sInv S) (F : fb sf mw S.P) {c : Nat} : ovS S mw S.P c ↔ ∃ x, x < S.FC S.P ∧ kdS S x = 1 ∧ S.CF x = S.CF c ∧ sf (S.pc x) = 1 ∧ ∃ i, i < ocS S x ∧ oxZ Z x i = c := by
  constructor
  · rintro ⟨p, hp, hb, j, hj, h1, k, hk, hx⟩
    have hc : S.FC p + j < S.FC S.P := by have := (I.bounds hp).1; omega
    have hpc := I.pca hp hj
    obtain ⟨_, _, _, _, g5⟩ := M.over I hc h1
    obtain ⟨_, _, q3⟩ := g5 k hk
    rw [hpc] at q3
    have e : oxZ Z (S.FC p + j) k = c := cnR.uniq (I.nd5 hp) q3 hx
    obtain ⟨x', y1, y2, y3, y4⟩ := I.ref hp hj h1 hk
    have e2 : x' = c := cnR.uniq (I.nd5 hp) y1 hx
    exact ⟨S.FC p + j, hc, (I.kdi hc (by decide)).mpr h1, by rw [← y4, e2], by rw [hpc]; exact (F.one hp).mpr hb, k, hk, e⟩
  · rintro ⟨x, hx, hk, _, hs, i, hi, e⟩
    have h1 := (I.kdi hx (by decide)).mp hk
    obtain ⟨_, _, _, _, g5⟩ := M.over I hx h1
    obtain ⟨_, _, q3⟩ := g5 i hi
    obtain ⟨hp, j, hj, e2⟩ := I.pcs hx
    rw [e] at q3
    refine ⟨S.pc x, hp, (F.one hp).mp hs, j, hj, by rw [← e2]; exact h1, i, by rw [← e2]; exact hi, ?_⟩
    unfold ovK
    rw [← e2]
    exact q3
theorem mrp.ist {S : Stk} {Z : Mda} {G : Gr} {sf : Nat → Int32} {mw : Nat → Int64} (M : mrp S Z G) (I : sInv S) (F : fb sf mw S.P) {c : Nat} (hc : c < S.FC S.P) (hk : kdS S c ≤ 1) : isT sf (S.FC S.P) S.pc (kdS S) S.CF (ocS S) (nsS S) (oxZ Z) c ↔ bt mw (S.pc c) = true ∧ thB S mw c = true := by
  have hp := (I.pcs hc).1
  have h1 := I.nsn hc (I.k01 hc hk)
  have h2 := M.ovs I F (c := c)
  constructor
  · rintro ⟨a1, a2, a3⟩
    refine ⟨(F.one hp).mp a1, thB_yes (h1.mp a2) (fun z => ?_)⟩
    obtain ⟨x, b1, b2, b3, b4, i, b5, b6⟩ := h2.mp z
    exact a3 x b1 b2 b3 b4 i b5 b6
  · rintro ⟨a1, a2⟩
    unfold thB at a2
    rw [Bool.and_eq_true, nmB_iff] at a2
    refine ⟨(F.one hp).mpr a1, h1.mpr a2.1, fun x b1 b2 b3 b4 i b5 b6 => ?_⟩
    have h3 := ovB_iff.mpr (h2.mpr ⟨x, b1, b2, b3, b4, i, b5, b6⟩)
    rw [h3] at a2
    exact absurd a2.2 (by decide)
theorem sInv.allu {S : Stk} (I : sInv S) {mw : Nat → Int64} {c : Nat} : c ∈ allU S mw S.P ↔ c < S.FC S.P ∧ bt mw (S.pc c) = true := by
  rw [allU_mem]
  constructor
  · rintro ⟨k, h1, h2, h3, h4⟩
    have hb := I.bh k h1
    have h5 := (I.bounds hb).1
    refine ⟨by omega, ?_⟩
    have e : c = S.FC (S.BH k) + (c - S.FC (S.BH k)) := by omega
    rw [e, I.pca hb (by omega)]
    exact h2
  · rintro ⟨h1, h2⟩
    obtain ⟨hp, j, hj, e⟩ := I.pcs h1
    obtain ⟨k, hk, ek⟩ := I.sur _ hp
    exact ⟨k, hk, by rw [ek]; exact h2, by rw [ek]; omega, by rw [ek]; omega⟩
theorem thB.k {S : Stk} {mw : Nat → Int64} {c : Nat} (h : thB S mw c = true) : S.f (S.CA c) = 0 ∨ S.f (S.CA c) = 1 := by
  unfold thB at h
  rw [Bool.and_eq_true, nmB_iff] at h
  rcases h.1 with z | z
  · exact Or.inl z
  · exact Or.inr z.1
theorem sInv.k01r {S : Stk} (I : sInv S) {c : Nat} (hc : c < S.FC S.P) (h : S.f (S.CA c) = 0 ∨ S.f (S.CA c) = 1) : kdS S c ≤ 1 := by
  rcases h with z | z
  · rw [kd_k 0 (by omega) z]; omega
  · rw [kd_k 1 (by omega) z]; exact Nat.le_refl _
theorem mrp.nam {S : Stk} {Z : Mda} {G : Gr} {sf : Nat → Int32} {mw : Nat → Int64} (M : mrp S Z G) (I : sInv S) (F : fb sf mw S.P) {y c : Nat} : nmS sf (S.FC S.P) S.pc (kdS S) S.CF (ocS S) (nsS S) (oxZ Z) y (S.FC S.P) c ↔ c ∈ namL S mw ∧ S.CF c = y := by
  unfold namL nmA
  rw [List.mem_filter, I.allu]
  constructor
  · rintro ⟨h1, h2, h3, h4⟩
    have h5 := (M.ist I F h1 h2).mp h4
    exact ⟨⟨⟨h1, h5.1⟩, h5.2⟩, h3⟩
  · rintro ⟨⟨⟨h1, h2⟩, h3⟩, h4⟩
    have hk := I.k01r h1 (thB.k h3)
    exact ⟨h1, hk, h4, (M.ist I F h1 hk).mpr ⟨h2, h3⟩⟩
theorem mrp.hsq {S : Stk} {Z : Mda} {G : Gr} (M : mrp S Z G) {p : Nat} (hp : p < S.P) : sq (G.H p) 0 32 = sq S.hf (p * 32) 32 := sq_congr 32 _ _ (fun k hk => by rw [Nat.zero_add]; exact M.2.2.2.2.1.2.2 p k hp hk)
theorem mrp.srtU {S : Stk} {Z : Mda} {G : Gr} (M : mrp S Z G) (I : sInv S) (mw : Nat → Int64) : ∀ i, i ≤ S.P → (allU S mw i).Pairwise (fun a b => kyG G.H S.pc b a)
  | 0, _ => List.Pairwise.nil
  | i + 1, hi => by
    have ih := M.srtU I mw i (by omega)
    show (allU S mw i ++ (if bt mw (S.BH i) = true then seqL (S.FC (S.BH i)) (S.nT (S.BH i)) else [])).Pairwise _
    by_cases e : bt mw (S.BH i) = true
    · rw [if_pos e, List.pairwise_append]
      have hb := I.bh i (by omega)
      have hpc : ∀ x, x ∈ seqL (S.FC (S.BH i)) (S.nT (S.BH i)) → S.pc x = S.BH i := fun x hx => by
        have h1 := seqL_mem.mp hx
        have e1 : x = S.FC (S.BH i) + (x - S.FC (S.BH i)) := by omega
        rw [e1, I.pca hb (by omega)]
      refine ⟨ih, ?_, fun a ha b hb2 => ?_⟩
      · have h2 : ∀ n a, (seqL a n).Pairwise (fun x y => x < y) := fun n => by
          induction n with
          | zero => intro a; exact List.Pairwise.nil
          | succ n ihn =>
            intro a
            show (seqL a n ++ [a + n]).Pairwise _
            rw [List.pairwise_append]
            exact ⟨ihn a, List.pairwise_singleton _ _, fun x hx y hy => by rw [List.mem_singleton.mp hy]; exact (seqL_mem.mp hx).2⟩
        refine List.Pairwise.imp_of_mem (fun {x y} hx hy hxy => ?_) (h2 (S.nT (S.BH i)) (S.FC (S.BH i)))
        exact Or.inl ⟨by rw [hpc x hx, hpc y hy], hxy⟩
      · obtain ⟨k, h1, h2, h3, h4⟩ := allU_mem.mp ha
        have hbk := I.bh k (by omega)
        have e2 : S.pc a = S.BH k := by
          have e1 : a = S.FC (S.BH k) + (a - S.FC (S.BH k)) := by omega
          rw [e1, I.pca hbk (by omega)]
        have h5 := I.up k i h1 (by omega)
        refine Or.inr ⟨?_, ?_⟩
        · rw [hpc b hb2, e2]
          exact fun z => I.inj k i h1 (by omega) z.symm
        · rw [hpc b hb2, e2, M.hsq hb, M.hsq hbk]; exact h5
    · rw [if_neg e, List.append_nil]; exact ih
theorem mrp.nml {S : Stk} {Z : Mda} {G : Gr} {sf : Nat → Int32} {mw : Nat → Int64} (M : mrp S Z G) (I : sInv S) (F : fb sf mw S.P) {y : Nat} {NL : List Nat} (h1 : srt (kyG G.H S.pc) NL) (h2 : ∀ c, c ∈ NL ↔ nmS sf (S.FC S.P) S.pc (kdS S) S.CF (ocS S) (nsS S) (oxZ Z) y (S.FC S.P) c) : NL = (namL S mw).filter (fun c => S.CF c == y) := by
  refine srt.uniq (R := kyG G.H S.pc) (fun a => kyG.ir a) (fun a b d => kyG.tr a b d) _ _ h1 ?_ (fun x => ?_)
  · rw [srt_pw]
    unfold namL nmA
    exact ((M.srtU I mw S.P (Nat.le_refl _)).filter _).filter _
  · rw [h2 x, M.nam I F, List.mem_filter, beq_iff_eq]
theorem nOf_len (S : Stk) (y : Nat) (L : List Nat) : nOf S y L = (L.filter (fun c => S.CF c == y)).length := rfl
/-- each file has a change that adds it -/
theorem sInv.adx {S : Stk} (I : sInv S) {y : Nat} : ∀ n, n ≤ S.P → y < S.NFp n → ∃ p j, p < n ∧ j < S.nT p ∧ S.f (S.CA (S.FC p + j)) = 0 ∧ NFs S.f S.CA (S.FC p) (S.NFp p) j = y
  | 0, _, h => by rw [I.nf0] at h; exact absurd h (Nat.not_lt_zero _)
  | n + 1, hn, h => by
    by_cases e : y < S.NFp n
    · obtain ⟨p, j, h1, h2⟩ := I.adx n (by omega) e
      exact ⟨p, j, by omega, h2⟩
    · rw [(I.pi n (by omega)).nf] at h
      have key : ∀ m, m ≤ S.nT n → y < NFs S.f S.CA (S.FC n) (S.NFp n) m → ∃ j, j < m ∧ S.f (S.CA (S.FC n + j)) = 0 ∧ NFs S.f S.CA (S.FC n) (S.NFp n) j = y := fun m => by
        induction m with
        | zero => intro _ h2; exact absurd h2 e
        | succ m ih =>
          intro hm h2
          by_cases e2 : y < NFs S.f S.CA (S.FC n) (S.NFp n) m
          · obtain ⟨j, h3, h4⟩ := ih (by omega) e2
            exact ⟨j, by omega, h4⟩
          · have h5 : NFs S.f S.CA (S.FC n) (S.NFp n) (m + 1) = NFX S.f (NFs S.f S.CA (S.FC n) (S.NFp n) m) (S.CA (S.FC n + m)) := rfl
            rw [h5] at h2
            unfold NFX at h2
            by_cases e3 : S.f (S.CA (S.FC n + m)) = 0
            · rw [if_pos e3] at h2
              exact ⟨m, by omega, e3, by omega⟩
            · rw [if_neg e3] at h2
              exact absurd h2 e2
      obtain ⟨j, h3, h4⟩ := key _ (Nat.le_refl _) h
      exact ⟨n, j, by omega, h3, h4⟩
/-- the change that adds a file -/
def fhS (S : Stk) (y : Nat) : Nat := (S.ad y).toNatClampNeg
theorem sInv.fhc {S : Stk} (I : sInv S) {c : Nat} (hc : c < S.FC S.P) (h0 : S.f (S.CA c) = 0) : fhS S (S.CF c) = c ∧ S.ad (S.CF c) = nI c ∧ S.CF c < S.NFp S.P := by
  obtain ⟨p, j, h1, h2, h3⟩ := I.own (Nat.le_refl _) hc
  have h4 := (I.pi p h1).rs j h2
  rw [← h3] at h4
  have h5 := (I.pi p h1).ad j h2 (by rw [← h3]; exact h0)
  have hF := I.fcP
  have e : S.CF c = NFs S.f S.CA (S.FC p) (S.NFp p) j := by
    rcases h4 with h | h | h | h | h
    · exact h.2
    · rw [h0] at h; exact absurd h.1 (by decide)
    · rw [h0] at h; exact absurd h.1 (by decide)
    · rw [h0] at h; exact absurd h.1 (by decide)
    · rw [h0] at h; exact absurd h.1 (by decide)
  rw [← e, ← h3] at h5
  exact ⟨by unfold fhS; rw [h5]; exact nI_clamp (by omega), h5, I.cfl hc⟩
theorem sInv.fhy {S : Stk} (I : sInv S) {y : Nat} (hy : y < S.NFp S.P) : fhS S y < S.FC S.P ∧ S.f (S.CA (fhS S y)) = 0 ∧ S.CF (fhS S y) = y := by
  obtain ⟨p, j, h1, h2, h3, h4⟩ := I.adx S.P (Nat.le_refl _) hy
  have hc : S.FC p + j < S.FC S.P := by have := (I.bounds h1).1; omega
  have h5 := (I.pi p h1).ad j h2 h3
  have hF := I.fcP
  have e : fhS S y = S.FC p + j := by
    unfold fhS
    rw [← h4, h5]; exact nI_clamp (by omega)
  rw [e]
  refine ⟨hc, h3, ?_⟩
  have h6 := (I.pi p h1).rs j h2
  rcases h6 with h | h | h | h | h
  · rw [h.2]; exact h4
  · rw [h3] at h; exact absurd h.1 (by decide)
  · rw [h3] at h; exact absurd h.1 (by decide)
  · rw [h3] at h; exact absurd h.1 (by decide)
  · rw [h3] at h; exact absurd h.1 (by decide)
theorem mrp.fh {S : Stk} {Z : Mda} {G : Gr} (M : mrp S Z G) (I : sInv S) : ∀ y, y < S.NFp S.P → Z.fh y = nI (fhS S y) ∧ fhS S y < S.FC S.P ∧ True := fun y hy => by
  obtain ⟨p, j, h1, h2, h3, h4⟩ := I.adx S.P (Nat.le_refl _) hy
  have hc : S.FC p + j < S.FC S.P := by have := (I.bounds h1).1; omega
  obtain ⟨_, o, h6⟩ := M.2.2.2.2.2.1 p j h1 h2
  have h7 := I.nfP
  have h8 := h6.2.2.2.2.2.2.2.2 h3 (by rw [h4]; omega)
  rw [h4] at h8
  have h9 := I.fhy hy
  have e : fhS S y = S.FC p + j := by
    have h5 := (I.pi p h1).ad j h2 h3
    have hF := I.fcP
    unfold fhS
    rw [← h4, h5]; exact nI_clamp (by omega)
  rw [e]
  exact ⟨h8, hc, trivial⟩
theorem sInv.fhj {S : Stk} (I : sInv S) : ∀ a b, a < S.NFp S.P → b < S.NFp S.P → fhS S a = fhS S b → a = b := fun a b ha hb e => by
  rw [← (I.fhy ha).2.2, ← (I.fhy hb).2.2, e]
/-- the files that are there -/
theorem mrp.fil {S : Stk} {Z : Mda} {G : Gr} {sf : Nat → Int32} {mw : Nat → Int64} (M : mrp S Z G) (I : sInv S) (F : fb sf mw S.P) {y : Nat} : flS sf (S.FC S.P) S.pc (kdS S) S.CF (ocS S) (nsS S) (oxZ Z) (fhS S) (S.NFp S.P) y ↔ y ∈ filL S mw := by
  unfold filL flA
  rw [List.mem_filter, hasN_iff, List.mem_map]
  constructor
  · rintro ⟨h1, h2, c, h3⟩
    obtain ⟨g1, g2, g3⟩ := I.fhy h1
    have h4 := (M.nam I F).mp h3
    refine ⟨⟨fhS S y, List.mem_filter.mpr ⟨I.allu.mpr ⟨g1, (F.one (I.pcs g1).1).mp h2⟩, ?_⟩, g3⟩, ?_⟩
    · unfold adB
      rw [beq_iff_eq]; exact g2
    · rw [nOf_len]
      exact List.length_pos_of_mem (List.mem_filter.mpr ⟨h4.1, by rw [beq_iff_eq]; exact h4.2⟩)
  · rintro ⟨⟨c, h1, h2⟩, h3⟩
    obtain ⟨h4, h5⟩ := List.mem_filter.mp h1
    obtain ⟨h6, h7⟩ := I.allu.mp h4
    unfold adB at h5
    rw [beq_iff_eq] at h5
    obtain ⟨g1, g2, g3⟩ := I.fhc h6 h5
    rw [h2] at g1 g3
    rw [nOf_len] at h3
    obtain ⟨d, hd⟩ := List.exists_mem_of_length_pos h3
    obtain ⟨d1, d2⟩ := List.mem_filter.mp hd
    rw [beq_iff_eq] at d2
    exact ⟨g3, by rw [g1]; exact (F.one (I.pcs h6).1).mpr h7, d, (M.nam I F).mpr ⟨d1, d2⟩⟩
theorem mrp.fls {S : Stk} {Z : Mda} {G : Gr} {sf : Nat → Int32} {mw : Nat → Int64} (M : mrp S Z G) (I : sInv S) (F : fb sf mw S.P) {FL : List Nat} (h1 : srt (fkG G.H S.pc (fhS S)) FL) (h2 : ∀ x, x ∈ FL ↔ flS sf (S.FC S.P) S.pc (kdS S) S.CF (ocS S) (nsS S) (oxZ Z) (fhS S) (S.NFp S.P) x) : FL = filL S mw := by
  refine srt.uniq (R := fkG G.H S.pc (fhS S)) (fun a => kyG.ir _) (fun a b d => kyG.tr _ _ _) _ _ h1 ?_ (fun x => (h2 x).trans (M.fil I F))
  rw [srt_pw]
  unfold filL flA
  refine List.Pairwise.filter _ ?_
  rw [List.pairwise_map]
  refine List.Pairwise.imp_of_mem (fun {a b} ha hb hab => ?_) ((M.srtU I mw S.P (Nat.le_refl _)).filter _)
  obtain ⟨a1, a2⟩ := List.mem_filter.mp ha
  obtain ⟨b1, b2⟩ := List.mem_filter.mp hb
  unfold adB at a2 b2
  rw [beq_iff_eq] at a2 b2
  have ea := (I.fhc (I.allu.mp a1).1 a2).1
  have eb := (I.fhc (I.allu.mp b1).1 b2).1
  unfold fkG
  rw [ea, eb]
  exact hab

