/-! 99zzg.bridge4.lean.txt -/
/-- what the reference's rows hold of an order and of a delete -/
theorem mrp.in34 {S : Stk} {Z : Mda} {G : Gr} (M : mrp S Z G) (I : sInv S) {c : Nat} (hc : c < S.FC S.P) (hk : S.f (S.CA c) = 3 ∨ S.f (S.CA c) = 4) : ∃ x l, cnR S.f (S.dp (S.pc c)) S.FC (S.pc c) (S.nd (S.pc c)) c (S.CA c + 1) x ∧ l = S.CL x + tw S.f (S.CA c + 1 + 4) ∧ Z.on c = nI l ∧ l < S.NLp S.P ∧ lcS S l = x ∧ S.CF x = S.CF c ∧ (S.f (S.CA c) = 4 → ∃ x2 m, cnR S.f (S.dp (S.pc c)) S.FC (S.pc c) (S.nd (S.pc c)) c (S.CA c + 7) x2 ∧ m = S.CL x2 + tw S.f (S.CA c + 7 + 4) ∧ Z.tw c = nI m ∧ m < S.NLp S.P ∧ lcS S m = x2 ∧ S.CF x2 = S.CF c) := by
  obtain ⟨p, j, h1, hj, h3, hpc, h5, o, h6⟩ := M.ch I hc
  have h4 := (I.pi p h1).rs j hj
  rw [← h3] at h4
  have hf : flR S.f (S.dp p) S.FC S.CA S.CF p (S.nd p) c (S.CA c + 1) (S.CF c) ∧ (S.f (S.CA c) = 4 → flR S.f (S.dp p) S.FC S.CA S.CF p (S.nd p) c (S.CA c + 7) (S.CF c)) := by
    rcases h4 with h | h | h | h | h
    · rcases hk with z | z <;> (rw [z] at h; exact absurd h.1 (by decide))
    · rcases hk with z | z <;> (rw [z] at h; exact absurd h.1 (by decide))
    · rcases hk with z | z <;> (rw [z] at h; exact absurd h.1 (by decide))
    · exact ⟨h.2, fun z => by rw [z] at h; exact absurd h.1 (by decide)⟩
    · exact ⟨h.2.1, fun _ => h.2.2.1⟩
  obtain ⟨z, g1, g2⟩ := h6.2.2.2.2.2.2.1 hk
  have hf1 := hf.1
  rw [h3] at hf1
  obtain ⟨x, a1, a2, a3, a4, a5, a6, a7⟩ := I.lnr h1 hj hf1
  rw [← h3] at a1 a4 a5 a6 a7
  have ez : z = x := cnR.uniq (I.nd5 h1) g1 a1
  rw [hpc]
  refine ⟨x, S.CL x + tw S.f (S.CA c + 1 + 4), a1, rfl, by rw [← ez]; exact g2, a7, a6, a5, fun k4 => ?_⟩
  obtain ⟨z2, g3, g4⟩ := h6.2.2.2.2.2.2.2.1 k4
  have hf2 := hf.2 k4
  rw [h3] at hf2
  obtain ⟨x2, b1, b2, b3, b4, b5, b6, b7⟩ := I.lnr h1 hj hf2
  rw [← h3] at b1 b4 b5 b6 b7
  have ez2 : z2 = x2 := cnR.uniq (I.nd5 h1) g3 b1
  exact ⟨x2, S.CL x2 + tw S.f (S.CA c + 7 + 4), b1, rfl, by rw [← ez2]; exact g4, b7, b6, b5⟩
/-- the lines that a set deletes -/
theorem mrp.del {S : Stk} {Z : Mda} {G : Gr} {sf : Nat → Int32} {mw : Nat → Int64} (M : mrp S Z G) (I : sInv S) (F : fb sf mw S.P) {y l : Nat} : deG S mw y l ↔ gDe sf (S.FC S.P) S.pc (kdS S) S.CF (lcS S) Z.on y l := by
  have hN := I.nlP
  constructor
  · rintro ⟨p, hp, hb, j, hj, h3, hy, x, hx, e⟩
    have hc : S.FC p + j < S.FC S.P := by have := (I.bounds hp).1; omega
    have hpc := I.pca hp hj
    obtain ⟨x', l', a1, a2, a3, a4, a5, a6, _⟩ := M.in34 I hc (Or.inl h3)
    rw [hpc] at a1
    have ex : x' = x := cnR.uniq (I.nd5 hp) a1 hx
    have el : l' = l := by rw [a2, e, ex]
    rw [el] at a3 a4 a5
    exact ⟨S.FC p + j, hc, by rw [hpc]; exact (F.one hp).mpr hb, (I.kdi hc (by decide)).mpr h3, a3, by omega, by rw [a5, a6, hy]⟩
  · rintro ⟨c, hc, hs, hk, h1, h2, h3⟩
    have hk3 := (I.kdi hc (by decide)).mp hk
    obtain ⟨hp, j, hj, e⟩ := I.pcs hc
    obtain ⟨x', l', a1, a2, a3, a4, a5, a6, _⟩ := M.in34 I hc (Or.inl hk3)
    have el : l' = l := (nI_eq (a := l') (b := l) (by omega) (by omega)).mp (a3.symm.trans h1)
    rw [el] at a2 a5
    refine ⟨S.pc c, hp, (F.one hp).mp hs, j, hj, by rw [← e]; exact hk3, ?_, x', ?_, ?_⟩
    · rw [← e, ← a6, ← a5, h3]
    · rw [← e]; exact a1
    · rw [← e]; exact a2
/-- the edges of a set -/
theorem mrp.edg {S : Stk} {Z : Mda} {G : Gr} {sf : Nat → Int32} {mw : Nat → Int64} (M : mrp S Z G) (I : sInv S) (F : fb sf mw S.P) {y l m : Nat} : (iE S (rowL S mw y) (rowL S mw y).length l m ∨ oS S mw y S.P l m) ↔ gEd sf (S.FC S.P) S.pc (kdS S) S.CF (lcS S) S.CL (nLn S) Z.on Z.tw y l m := by
  have hN := I.nlP
  constructor
  · rintro (⟨k, hk, hx⟩ | ⟨p, hp, hb, j, hj, h3, hy, ⟨x, hx, e⟩, x2, hx2, e2⟩)
    · have hr := (mrp.row I F).mp (getD_mem hk)
      generalize (rowL S mw y).getD k 0 = x at hx hr
      obtain ⟨r1, r2, r3⟩ := hr
      obtain ⟨g1, g2, g3, g4⟩ := I.lno r1
      obtain ⟨f1, f2, f3, f4⟩ := M.in2 I g1 g2
      have hq : x - S.CL (lcS S x) < nLn S (lcS S x) := by omega
      have ex : S.CL (lcS S x) + (x - S.CL (lcS S x)) = x := by omega
      have fq := f3 _ hq
      rw [ex] at fq
      have lp := (I.lnf g1 g2 hq).2.2.1
      rw [ex] at lp
      have la := I.last g1 g2 hq
      rw [ex] at la
      refine ⟨lcS S x, g1, r3, Or.inl ⟨(I.kdi g1 (by omega)).mpr g2, r2, ?_⟩⟩
      rcases hx with ⟨rfl, h | h⟩ | ⟨rfl, h1, h2, h3⟩
      · refine Or.inr (Or.inl ⟨?_, by omega, h.2.symm⟩)
        have : ¬ m - S.CL (lcS S m) = 0 := fun z => h.1 (by rw [lp, z]; rfl)
        omega
      · refine Or.inl ⟨by rw [fq.2.1]; exact h.2.1, h.2.2, ?_⟩
        have h5 := h.1
        rw [lp] at h5
        have := (nI_eq (a := m - S.CL (lcS S m)) (b := 0) (by omega) (by omega)).mp h5
        omega
      · have h5 := la.mp h1
        exact Or.inr (Or.inr ⟨by omega, by rw [fq.2.2]; exact h2, h3⟩)
    · have hc : S.FC p + j < S.FC S.P := by have := (I.bounds hp).1; omega
      have hpc := I.pca hp hj
      obtain ⟨x', l', a1, a2, a3, a4, a5, a6, a7⟩ := M.in34 I hc (Or.inr h3)
      obtain ⟨x2', m', b1, b2, b3, b4, b5, b6⟩ := a7 h3
      rw [hpc] at a1 b1
      have ex : x' = x := cnR.uniq (I.nd5 hp) a1 hx
      have ex2 : x2' = x2 := cnR.uniq (I.nd5 hp) b1 hx2
      have el : l' = l := by rw [a2, e, ex]
      have em : m' = m := by rw [b2, e2, ex2]
      rw [el] at a3 a4 a5
      rw [em] at b3 b4
      exact ⟨S.FC p + j, hc, by rw [hpc]; exact (F.one hp).mpr hb, Or.inr ⟨(I.kdi hc (by decide)).mpr h3, a3, by omega, b3, by omega, by rw [a5, a6, hy]⟩⟩
  · rintro ⟨c, hc, hs, h | ⟨hk, h1, h2, h3, h4, h5⟩⟩
    · obtain ⟨hk, hy, h⟩ := h
      have h2 := (I.kdi hc (by decide)).mp hk
      obtain ⟨f1, f2, f3, f4⟩ := M.in2 I hc h2
      obtain ⟨n1, n2⟩ := I.ln1 hc h2
      have mem : ∀ q, q < nLn S c → ∃ k, k < (rowL S mw y).length ∧ (rowL S mw y).getD k 0 = S.CL c + q := fun q hq => by
        obtain ⟨l1, l2, l3, l4, _⟩ := I.lnf hc h2 hq
        exact mem_getD ((mrp.row I F).mpr ⟨l4, by rw [l2]; exact hy, by rw [l2]; exact hs⟩)
      left
      rcases h with ⟨e1, e2, e3⟩ | ⟨e1, e2, e3⟩ | ⟨e1, e2, e3⟩
      · obtain ⟨k, hk1, hk2⟩ := mem 0 (by omega)
        have fq := (f3 0 (by omega)).2.1
        have lp := (I.lnf hc h2 (show 0 < nLn S c by omega)).2.2.1
        refine ⟨k, hk1, Or.inl ?_⟩
        rw [hk2]
        exact ⟨e3, Or.inr ⟨lp, by rw [← fq]; exact e1, e2⟩⟩
      · obtain ⟨k, hk1, hk2⟩ := mem (l + 1 - S.CL c) (by omega)
        have lp := (I.lnf hc h2 (show l + 1 - S.CL c < nLn S c by omega)).2.2.1
        rw [show S.CL c + (l + 1 - S.CL c) = l + 1 by omega] at hk2 lp
        refine ⟨k, hk1, Or.inl ?_⟩
        rw [hk2]
        refine ⟨e3, Or.inl ⟨fun z => ?_, rfl⟩⟩
        rw [lp] at z
        have := (nI_eq (a := l + 1 - S.CL c) (b := 0) (by omega) (by omega)).mp z
        omega
      · obtain ⟨k, hk1, hk2⟩ := mem (nLn S c - 1) (by omega)
        have fq := (f3 (nLn S c - 1) (by omega)).2.2
        have la := (I.last hc h2 (show nLn S c - 1 < nLn S c by omega)).mpr (by omega)
        rw [show S.CL c + (nLn S c - 1) = l by omega] at hk2 fq la
        refine ⟨k, hk1, Or.inr ?_⟩
        rw [hk2]
        exact ⟨rfl, la, by rw [← fq]; exact e2, e3⟩
    · have hk4 := (I.kdi hc (by decide)).mp hk
      obtain ⟨hp, j, hj, e⟩ := I.pcs hc
      obtain ⟨x', l', a1, a2, a3, a4, a5, a6, a7⟩ := M.in34 I hc (Or.inr hk4)
      obtain ⟨x2', m', b1, b2, b3, b4, b5, b6⟩ := a7 hk4
      have el : l' = l := (nI_eq (a := l') (b := l) (by omega) (by omega)).mp (a3.symm.trans h1)
      have em : m' = m := (nI_eq (a := m') (b := m) (by omega) (by omega)).mp (b3.symm.trans h3)
      rw [el] at a2 a5
      rw [em] at b2
      refine Or.inr ⟨S.pc c, hp, (F.one hp).mp hs, j, hj, by rw [← e]; exact hk4, ?_, ⟨x', ?_, ?_⟩, x2', ?_, ?_⟩
      · rw [← e, ← a6, ← a5, h5]
      · rw [← e]; exact a1
      · rw [← e]; exact a2
      · rw [← e]; exact b1
      · rw [← e]; exact b2
/-- a neighbour of a line of a closed set -/
theorem clo.up {S : Stk} {sf : Nat → Int32} {mw : Nat → Int64} (C : clo S mw) (I : sInv S) (F : fb sf mw S.P) {c k : Nat} {v : Int32} (hc : c < S.FC S.P) (hs : sf (S.pc c) = 1) (hf : ¬ S.f k = 0 → flR S.f (S.dp (S.pc c)) S.FC S.CA S.CF (S.pc c) (S.nd (S.pc c)) c (k + 1) (S.CF c)) (hv : upR S.f (S.dp (S.pc c)) S.FC S.CL (S.pc c) (S.nd (S.pc c)) c k v) : v = -1 ∨ ∃ x, v = nI x ∧ gIn sf (S.NLp S.P) S.pc S.CF (lcS S) (S.CF c) x := by
  rcases hv with ⟨_, h⟩ | ⟨h1, x, h2, h3⟩
  · exact Or.inl h
  · obtain ⟨hp, j, hj, e⟩ := I.pcs hc
    have hf1 := hf h1
    have h2' := h2
    rw [e, I.pca hp hj] at hf1 h2'
    obtain ⟨z, a1, a2, a3, a4, a5, a6, a7⟩ := I.lnr hp hj hf1
    have ez : z = x := cnR.uniq (I.nd5 hp) a1 h2'
    rw [ez] at a2 a3 a4 a5 a6 a7
    have hb := C.ref I hp hj ((F.one hp).mp hs) h2'
    refine Or.inr ⟨_, h3, a7, ?_, ?_⟩
    · rw [a6, a5, ← e]
    · rw [a6]; exact (F.one (I.pcs a2).1).mpr hb

