/-! 99zzh.bridge5.lean.txt -/
theorem lnQ_flat {S : Stk} {y p : Nat} : ∀ j, lnQ S y p j = (seqL (S.FC p) j).flatMap (lcC S y)
  | 0 => rfl
  | j + 1 => by
    show lnQ S y p j ++ lcC S y (S.FC p + j) = (seqL (S.FC p) j ++ [S.FC p + j]).flatMap (lcC S y)
    rw [lnQ_flat j, List.flatMap_append, List.flatMap_cons, List.flatMap_nil, List.append_nil]
theorem lnU_flat {S : Stk} {mw : Nat → Int64} {y : Nat} : ∀ i, lnU S mw y i = (allU S mw i).flatMap (lcC S y)
  | 0 => rfl
  | i + 1 => by
    show lnU S mw y i ++ (if bt mw (S.BH i) = true then lnQ S y (S.BH i) (S.nT (S.BH i)) else []) = (allU S mw i ++ (if bt mw (S.BH i) = true then seqL (S.FC (S.BH i)) (S.nT (S.BH i)) else [])).flatMap (lcC S y)
    rw [lnU_flat i, List.flatMap_append]
    by_cases e : bt mw (S.BH i) = true
    · rw [if_pos e, if_pos e, lnQ_flat]
    · rw [if_neg e, if_neg e]; rfl
theorem seqL_pw : ∀ (n a : Nat), (seqL a n).Pairwise (fun x y => x < y)
  | 0, _ => List.Pairwise.nil
  | n + 1, a => by
    show (seqL a n ++ [a + n]).Pairwise _
    rw [List.pairwise_append]
    exact ⟨seqL_pw n a, List.pairwise_singleton _ _, fun x hx y hy => by rw [List.mem_singleton.mp hy]; exact (seqL_mem.mp hx).2⟩
theorem sInv.lcm {S : Stk} (I : sInv S) {y c x : Nat} (hc : c < S.FC S.P) (hx : x ∈ lcC S y c) : lcS S x = c := by
  obtain ⟨h1, h2, h3, h4⟩ := lcC_mem.mp hx
  have e := (I.lnf hc h1 (show x - S.CL c < nLn S c by omega)).2.1
  rw [show S.CL c + (x - S.CL c) = x by omega] at e
  exact e
/-- the lines of a graph come by key -/
theorem mrp.rowS {S : Stk} {Z : Mda} {G : Gr} (M : mrp S Z G) (I : sInv S) (mw : Nat → Int64) (y : Nat) : (rowL S mw y).Pairwise (fun a b => lkL G.H S.pc (lcS S) a b) := by
  unfold rowL
  rw [lnU_flat, List.pairwise_flatMap]
  refine ⟨fun c hc => ?_, ?_⟩
  · have h1 := (I.allu.mp hc).1
    have h2 : (lcC S y c).Pairwise (fun a b => a < b) := by
      unfold lcC
      by_cases e : inB S y c = true
      · rw [if_pos e]; exact seqL_pw _ _
      · rw [if_neg e]; exact List.Pairwise.nil
    refine List.Pairwise.imp_of_mem (fun {a b} ha hb hab => ?_) h2
    exact Or.inr ⟨by rw [I.lcm h1 ha, I.lcm h1 hb], hab⟩
  · refine List.Pairwise.imp_of_mem (fun {c d} hc hd hcd => ?_) (M.srtU I mw S.P (Nat.le_refl _))
    intro a ha b hb
    exact Or.inl (by rw [I.lcm (I.allu.mp hc).1 ha, I.lcm (I.allu.mp hd).1 hb]; exact hcd)
theorem mrp.rowN {S : Stk} {Z : Mda} {G : Gr} (M : mrp S Z G) (I : sInv S) (mw : Nat → Int64) (y : Nat) : (rowL S mw y).Nodup := by
  rw [List.nodup_iff_pairwise_ne]
  exact (M.rowS I mw y).imp (fun {a b} h e => by rw [e] at h; exact lkL.ir _ h)
/-- a list without doubles among the members of another is no longer -/
theorem nd_sub {A B : List Nat} (hA : A.Nodup) (h : ∀ x, x ∈ A → x ∈ B) : A.length ≤ B.length := by
  have key : ∀ x, x ∈ A → ∃ a, a < B.length ∧ B.getD a 0 = x := fun x hx => mem_getD (h x hx)
  have h1 : (A.map (fun x => Classical.epsilon (fun a => a < B.length ∧ B.getD a 0 = x))).Nodup := by
    rw [List.nodup_iff_pairwise_ne, List.pairwise_map]
    rw [List.nodup_iff_pairwise_ne] at hA
    refine List.Pairwise.imp_of_mem (fun {x y} hx hy hxy e => hxy ?_) hA
    have ex := Classical.epsilon_spec (key x hx)
    have ey := Classical.epsilon_spec (key y hy)
    rw [← ex.2, ← ey.2, e]
  have h2 := nd_len B.length _ h1 (fun z hz => by
    obtain ⟨x, hx, e⟩ := List.mem_map.mp hz
    rw [← e]
    exact (Classical.epsilon_spec (key x hx)).1)
  rw [List.length_map] at h2
  exact h2
theorem mrp.cap {S : Stk} {sf : Nat → Int32} {mw : Nat → Int64} (I : sInv S) (F : fb sf mw S.P) {y : Nat} (L : List Nat) (hn : L.Nodup) (h : ∀ x, x ∈ L → gIn sf (S.NLp S.P) S.pc S.CF (lcS S) y x) : L.length ≤ 400 := Nat.le_trans (nd_sub hn (fun x hx => (mrp.row I F).mpr (h x hx))) (I.rowl mw y)
/-- what a change of a closed set needs so that its edges can be laid -/
theorem mrp.edl {S : Stk} {Z : Mda} {G : Gr} {sf : Nat → Int32} {mw : Nat → Int64} (M : mrp S Z G) (I : sInv S) (F : fb sf mw S.P) (C : clo S mw) {y : Nat} : ∀ c, c < S.FC S.P → sf (S.pc c) = 1 → edL (kdS S) S.CF (lcS S) S.CL (nLn S) Z.so Z.fo Z.la Z.lc Z.on Z.tw Z.lh (gIn sf (S.NLp S.P) S.pc S.CF (lcS S) y) y c := fun c hc hs => by
  have hF := I.fcP
  have hN := I.nlP
  have hNF := I.nfP
  have hcf := I.cfl hc
  have hmv := (M.mv I).2.1 c hc
  obtain ⟨hp, j, hj, e⟩ := I.pcs hc
  refine ⟨by omega, hmv.2.2.1, hmv.2.2.2, fun hk => ?_, fun hk => ?_⟩
  · have h2 := (I.kdi hc (by decide)).mp hk
    obtain ⟨f1, f2, f3, f4⟩ := M.in2 I hc h2
    obtain ⟨n1, n2⟩ := I.ln1 hc h2
    refine ⟨f4, by omega, fun ey => ?_⟩
    have l0 := I.lnf hc h2 (show 0 < nLn S c by omega)
    have g0 := f3 0 (by omega)
    have hin : inR S.f (S.dp (S.pc c)) S.FC S.CA S.CF (S.pc c) (S.nd (S.pc c)) c (S.CA c) (S.CF c) := by
      have h4 := (I.pi _ hp).rs j hj
      rw [← e] at h4
      rcases h4 with h | h | h | h | h
      · rw [h2] at h; exact absurd h.1 (by decide)
      · rw [h2] at h; exact absurd h.1 (by decide)
      · exact h.2
      · rw [h2] at h; exact absurd h.1 (by decide)
      · rw [h2] at h; exact absurd h.1 (by decide)
    refine ⟨f1, f2, n1, by omega, fun x hx1 hx2 => ?_, ?_, ?_⟩
    · have lx := I.lnf hc h2 (show x - S.CL c < nLn S c by omega)
      rw [show S.CL c + (x - S.CL c) = x by omega] at lx
      exact ⟨lx.2.2.2.1, by rw [lx.2.1]; exact ey, by rw [lx.2.1]; exact hs⟩
    · have := C.up I F hc hs (k := S.CA c + 5) hin.2.1 (by rw [← g0.2.1] at l0; exact l0.2.2.2.2.1)
      rw [ey] at this
      exact this
    · have := C.up I F hc hs (k := plEnd S.f (S.CA c + 5)) hin.2.2 (by rw [← g0.2.2] at l0; exact l0.2.2.2.2.2)
      rw [ey] at this
      exact this
  · have hk' : S.f (S.CA c) = 3 ∨ S.f (S.CA c) = 4 := hk.imp (I.kdi hc (by decide)).mp (I.kdi hc (by decide)).mp
    obtain ⟨x, l, a1, a2, a3, a4, a5, a6, a7⟩ := M.in34 I hc hk'
    obtain ⟨b1, b2, b3, b4, b5, b6⟩ := M.lin I l a4
    have inn : ∀ k z w, cnR S.f (S.dp (S.pc c)) S.FC (S.pc c) (S.nd (S.pc c)) c k z → w < S.NLp S.P → lcS S w = z → S.CF z = y → gIn sf (S.NLp S.P) S.pc S.CF (lcS S) y w := fun k z w q1 q2 q3 q4 => by
      have hb : bt mw (S.pc z) = true := by
        rw [e, I.pca hp hj] at q1
        exact C.ref I hp hj ((F.one hp).mp hs) q1
      have hz : z < S.FC S.P := by rw [← q3]; exact (I.lno q2).1
      exact ⟨q2, by rw [q3]; exact q4, by rw [q3]; exact (F.one (I.pcs hz).1).mpr hb⟩
    refine ⟨l, a3, by omega, b1, b2, b3, b4, fun ey => ⟨inn _ x l a1 a4 a5 (by rw [← a5]; exact ey), fun k4 => ?_⟩⟩
    obtain ⟨x2, m, d1, d2, d3, d4, d5, d6⟩ := a7 ((I.kdi hc (by decide)).mp k4)
    refine ⟨m, d3, inn _ x2 m d1 d4 d5 ?_⟩
    rw [d6, ← a6, ← a5]; exact ey

