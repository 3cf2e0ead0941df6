section
/-! 99zzs.closed.lean.txt -/
/-- flags that hold the bits of a set -/
def fwB (mw : Nat → Int64) (q : Nat) : Int32 := if bt mw q = true then 1 else 0
theorem fwB_fb (mw : Nat → Int64) (P : Nat) : fb (fwB mw) mw P := fun q _ => by
  unfold fwB
  by_cases h : bt mw q = true
  · rw [if_pos h]; exact flg.set h
  · rw [if_neg h]; exact Or.inr ⟨rfl, h⟩
theorem sInv.inr {S : Stk} (I : sInv S) {c : Nat} (hc : c < S.FC S.P) (h2 : S.f (S.CA c) = 2) : inR S.f (S.dp (S.pc c)) S.FC S.CA S.CF (S.pc c) (S.nd (S.pc c)) c (S.CA c) (S.CF c) := by
  obtain ⟨hp, j, hj, e⟩ := I.pcs hc
  have h4 := (I.pi _ hp).rs j hj
  rw [← e] at h4
  rcases h4 with h | h | h | h | h
  · rw [h2] at h; exact absurd h.1 (by decide)
  · rw [h2] at h; exact absurd h.1 (by decide)
  · exact h.2
  · rw [h2] at h; exact absurd h.1 (by decide)
  · rw [h2] at h; exact absurd h.1 (by decide)
/-- the neighbours of a line of a closed set's graph are in it -/
theorem clo.gr {S : Stk} {mw : Nat → Int64} (C : clo S mw) (I : sInv S) (y : Nat) : grOK S (rowL S mw y) := by
  have F := fwB_fb mw S.P
  have hN := I.nlP
  intro x hx
  obtain ⟨r1, r2, r3⟩ := (mrp.row I F).mp hx
  obtain ⟨g1, g2, g3, g4⟩ := I.lno r1
  have lx := I.lnf g1 g2 (show x - S.CL (lcS S x) < nLn S (lcS S x) by omega)
  rw [show S.CL (lcS S x) + (x - S.CL (lcS S x)) = x by omega] at lx
  obtain ⟨l1, l2, l3, l4, l5, l6⟩ := lx
  have hin := I.inr g1 g2
  refine ⟨r1, ⟨x - S.CL (lcS S x), l3, by omega, fun hp => ⟨by omega, ?_⟩⟩, ?_, ?_⟩
  · have lz := I.lnf g1 g2 (show x - 1 - S.CL (lcS S x) < nLn S (lcS S x) by omega)
    rw [show S.CL (lcS S x) + (x - 1 - S.CL (lcS S x)) = x - 1 by omega] at lz
    exact (mrp.row I F).mpr ⟨lz.2.2.2.1, by rw [lz.2.1]; exact r2, by rw [lz.2.1]; exact r3⟩
  · rcases C.up I F g1 r3 hin.2.1 l5 with z | ⟨q, z1, z2⟩
    · exact Or.inl z
    · rw [r2] at z2
      exact Or.inr ⟨q, (mrp.row I F).mpr z2, z1⟩
  · rcases C.up I F g1 r3 hin.2.2 l6 with z | ⟨q, z1, z2⟩
    · exact Or.inl z
    · rw [r2] at z2
      exact Or.inr ⟨q, (mrp.row I F).mpr z2, z1⟩
/-- what a closed set's orders and deletes name is in its graph -/
theorem clo.rf {S : Stk} {mw : Nat → Int64} (C : clo S mw) (I : sInv S) (y : Nat) {p : Nat} (hp : p < S.P) (hb : bt mw p = true) : rfOK S y p (rowL S mw y) := by
  have F := fwB_fb mw S.P
  intro j hj
  have hc : S.FC p + j < S.FC S.P := by have := (I.bounds hp).1; omega
  have h4 := (I.pi p hp).rs j hj
  have key : ∀ k l, flR S.f (S.dp p) S.FC S.CA S.CF p (S.nd p) (S.FC p + j) k (S.CF (S.FC p + j)) → S.CF (S.FC p + j) = y → lrR S p (S.FC p + j) k l → l ∈ rowL S mw y := fun k l h1 h2 ⟨x, h3, e⟩ => by
    obtain ⟨z, a1, a2, a3, a4, a5, a6, a7⟩ := I.lnr hp hj h1
    have ez : z = x := cnR.uniq (I.nd5 hp) a1 h3
    rw [ez] at a2 a3 a4 a5 a6 a7
    rw [← e] at a6 a7
    refine (mrp.row I F).mpr ⟨a7, by rw [a6, a5]; exact h2, ?_⟩
    rw [a6]
    exact (F.one (I.pcs a2).1).mpr (C.ref I hp hj hb h3)
  refine ⟨fun l m h => ?_, fun l h => ?_⟩
  · obtain ⟨k4, ey, q1, q2⟩ := h
    rcases h4 with h | h | h | h | h
    · rw [k4] at h; exact absurd h.1 (by decide)
    · rw [k4] at h; exact absurd h.1 (by decide)
    · rw [k4] at h; exact absurd h.1 (by decide)
    · rw [k4] at h; exact absurd h.1 (by decide)
    · exact ⟨key _ _ h.2.1 ey q1, key _ _ h.2.2.1 ey q2⟩
  · obtain ⟨k3, ey, q1⟩ := h
    rcases h4 with h | h | h | h | h
    · rw [k3] at h; exact absurd h.1 (by decide)
    · rw [k3] at h; exact absurd h.1 (by decide)
    · rw [k3] at h; exact absurd h.1 (by decide)
    · exact key _ _ h.2 ey q1
    · rw [k3] at h; exact absurd h.1 (by decide)
end
section
/-! 99zzt.counts.lean.txt -/
theorem cnt_take {b : Nat → Bool} {p : Nat → Bool} {L : List Nat} (h : ∀ a, a < L.length → b a = p (L.getD a 0)) : ∀ n, n ≤ L.length → cnt b n = ((L.take n).filter p).length
  | 0, _ => rfl
  | n + 1, hn => by
    have ih := cnt_take h n (by omega)
    have hl : n < L.length := by omega
    have e : L.take (n + 1) = L.take n ++ [L.getD n 0] := by
      rw [List.take_add_one, List.getElem?_eq_getElem hl, List.getD_eq_getElem?_getD, List.getElem?_eq_getElem hl]
      rfl
    rw [e, List.filter_append, List.length_append, ← ih]
    by_cases z : b n = true
    · have z2 : p (L.getD n 0) = true := by rw [← h n hl]; exact z
      rw [← cnt_yes z, List.filter_cons, if_pos z2]; rfl
    · have z2 : ¬ p (L.getD n 0) = true := by rw [← h n hl]; exact z
      rw [← cnt_no z, List.filter_cons, if_neg z2]; rfl
/-- what is counted over the members does not hang on their order -/
theorem cnt_same {L K : List Nat} (hL : L.Nodup) (hK : K.Nodup) (hm : ∀ x, x ∈ L ↔ x ∈ K) {b c : Nat → Bool} {Q : Nat → Prop} (hb : ∀ a, a < L.length → (b a = true ↔ Q (L.getD a 0))) (hc : ∀ a, a < K.length → (c a = true ↔ Q (K.getD a 0))) : cnt b L.length = cnt c K.length := by
  have e1 : ∀ {M : List Nat} {d : Nat → Bool}, (∀ a, a < M.length → (d a = true ↔ Q (M.getD a 0))) → cnt d M.length = (M.filter (fun x => @decide (Q x) (Classical.propDecidable _))).length := fun {M} {d} hd => by
    have := cnt_take (b := d) (p := fun x => @decide (Q x) (Classical.propDecidable _)) (L := M) (fun a ha => by
      rw [Bool.eq_iff_iff, hd a ha]
      exact (@decide_eq_true_iff _ (Classical.propDecidable _)).symm) M.length (Nat.le_refl _)
    rw [List.take_length] at this
    exact this
  rw [e1 hb, e1 hc]
  refine Nat.le_antisymm (nd_sub (hL.filter _) (fun x hx => ?_)) (nd_sub (hK.filter _) (fun x hx => ?_))
  · obtain ⟨z1, z2⟩ := List.mem_filter.mp hx
    exact List.mem_filter.mpr ⟨(hm x).mp z1, z2⟩
  · obtain ⟨z1, z2⟩ := List.mem_filter.mp hx
    exact List.mem_filter.mpr ⟨(hm x).mpr z1, z2⟩
/-- a neighbour is lost in the class where it is gone in the reference -/
theorem mrp.lost {S : Stk} {Z : Mda} {G : Gr} {sf : Nat → Int32} {mw : Nat → Int64} (M : mrp S Z G) (I : sInv S) (F : fb sf mw S.P) {y p : Nat} {nv : Int32} (hp : p < S.P) (hv : nv = -1 ∨ ∃ q, q ∈ rowL S mw y ∧ nv = nI q) : lostL S (dS S mw y S.P) p nv ↔ (¬ nv < 0 ∧ gnR sf (S.FC S.P) S.pc (kdS S) Z.on (fun a b => btr S.lo (a * 8) b = true) p nv) := by
  have hN := I.nlP
  have hP := I.hP
  constructor
  · rintro ⟨v, q, e, hv4, hq, ⟨h1, h2, j, hj, h3, hy, x, hx, ex⟩, hk⟩
    have hc : S.FC q + j < S.FC S.P := by have := (I.bounds h1).1; omega
    have hpc := I.pca h1 hj
    obtain ⟨x', l', a1, a2, a3, a4, a5, a6, _⟩ := M.in34 I hc (Or.inl h3)
    rw [hpc] at a1
    have ex' : x' = x := cnR.uniq (I.nd5 h1) a1 hx
    have el : l' = v := by rw [a2, ex, ex']
    rw [el] at a3
    refine ⟨by rw [e]; exact nI_pos (by omega), S.FC q + j, hc, (I.kdi hc (by decide)).mpr h3, by rw [a3, e], by rw [hpc]; exact (F.one h1).mpr h2, ?_, ?_, ?_⟩
    · rw [hpc]; exact fun z => hk (Or.inr (Or.inr z))
    · rw [hpc]
      intro z
      refine hk (Or.inr (Or.inl ?_))
      rw [I.lbz p q (by omega) hq, z, decide_eq_true h1]; rfl
    · rw [hpc]; exact fun z => hk (Or.inl z)
  · rintro ⟨h0, c, hc, hk, ho, hs, n1, n2, n3⟩
    have hk3 := (I.kdi hc (by decide)).mp hk
    obtain ⟨hq, j, hj, e⟩ := I.pcs hc
    obtain ⟨x', l', a1, a2, a3, a4, a5, a6, _⟩ := M.in34 I hc (Or.inl hk3)
    rcases hv with z | ⟨q', z1, z2⟩
    · rw [z] at h0; exact absurd (by decide) h0
    · have r := (mrp.row I F).mp z1
      have r1 := r.1
      have el : l' = q' := (nI_eq (a := l') (b := q') (by omega) (by omega)).mp (a3.symm.trans (ho.trans z2))
      refine ⟨l', S.pc c, by rw [el]; exact z2, by omega, by omega, ⟨hq, (F.one hq).mp hs, j, hj, by rw [← e]; exact hk3, ?_, x', ?_, ?_⟩, ?_⟩
      · rw [← e, ← a6, ← a5, el]; exact r.2.1
      · rw [← e]; exact a1
      · rw [← e]; exact a2
      · rintro (w | w | w)
        · exact n3 w
        · rw [I.lbz p (S.pc c) (by omega) (by omega), Bool.and_eq_true] at w
          exact n2 w.2
        · exact n1 w
end
section
/-! 99zzu.stranded.lean.txt -/
theorem slR.nd {sl : Nat → Int32} {L : List Nat} (h : slR sl L) (hl : L.length ≤ 400) : L.Nodup := by
  rw [List.nodup_iff_pairwise_ne, List.pairwise_iff_getElem]
  intro a b ha hb hab e
  have := h.inj hl ha hb (by
    rw [List.getD_eq_getElem?_getD, List.getD_eq_getElem?_getD, List.getElem?_eq_getElem ha, List.getElem?_eq_getElem hb]
    exact e)
  omega
/-- both count the dead lines alike -/
theorem mrp.deadN {S : Stk} {Z : Mda} {G : Gr} {sf : Nat → Int32} {mw : Nat → Int64} (M : mrp S Z G) (I : sInv S) (F : fb sf mw S.P) {y : Nat} {ML : List Nat} {pl de : Nat → Int32} (h3 : ML.length ≤ 400) (h5 : slR pl ML) (h6 : ∀ x, x ∈ ML ↔ gIn sf (S.NLp S.P) S.pc S.CF (lcS S) y x) (h7 : dG de ML.length (fun a => ML.getD a 0) (gDe sf (S.FC S.P) S.pc (kdS S) S.CF (lcS S) Z.on y)) : cnt (wb de) ML.length = dnG S mw y := by
  unfold dnG
  refine cnt_same (Q := deG S mw y) (h5.nd h3) (M.rowN I mw y) (fun x => (h6 x).trans (mrp.row I F).symm) (fun a ha => ?_) (fun a ha => dB_iff)
  rw [M.del I F]
  unfold wb
  rw [beq_iff_eq]
  rcases h7 a ha with ⟨z1, z2⟩ | ⟨z1, z2⟩
  · exact ⟨fun _ => z2, fun _ => z1⟩
  · exact ⟨fun z => by rw [z1] at z; exact absurd z (by decide), fun z => absurd z z2⟩
/-- both count the stranded lines alike -/
theorem mrp.strN {S : Stk} {Z : Mda} {G : Gr} {sf : Nat → Int32} {mw : Nat → Int64} (M : mrp S Z G) (I : sInv S) (F : fb sf mw S.P) (C : clo S mw) {y : Nat} {ML : List Nat} {pl de : Nat → Int32} (h3 : ML.length ≤ 400) (h5 : slR pl ML) (h6 : ∀ x, x ∈ ML ↔ gIn sf (S.NLp S.P) S.pc S.CF (lcS S) y x) (h7 : dG de ML.length (fun a => ML.getD a 0) (gDe sf (S.FC S.P) S.pc (kdS S) S.CF (lcS S) Z.on y)) : cnt (sdB sf (S.FC S.P) S.pc (kdS S) (lcS S) (fun a => ML.getD a 0) Z.on Z.tw de (fun a b => btr S.lo (a * 8) b = true)) ML.length = cnt (sB S (rowL S mw y) (deG S mw y) (dS S mw y S.P) (fun x => S.pc (lcS S x))) (rowL S mw y).length := by
  refine cnt_same (Q := fun l => ¬ deG S mw y l ∧ (lostL S (dS S mw y S.P) (S.pc (lcS S l)) (S.lu l) ∨ lostL S (dS S mw y S.P) (S.pc (lcS S l)) (S.ld l))) (h5.nd h3) (M.rowN I mw y) (fun x => (h6 x).trans (mrp.row I F).symm) (fun a ha => ?_) (fun a ha => sB_iff)
  have hx := (h6 _).mp (getD_mem ha)
  have hm : ML.getD a 0 ∈ rowL S mw y := (mrp.row I F).mpr hx
  obtain ⟨g1, g2, g3, g4⟩ := I.lno hx.1
  have hp := (I.pcs g1).1
  have f3 := (M.in2 I g1 g2).2.2.1 (ML.getD a 0 - S.CL (lcS S (ML.getD a 0))) (by omega)
  rw [show S.CL (lcS S (ML.getD a 0)) + (ML.getD a 0 - S.CL (lcS S (ML.getD a 0))) = ML.getD a 0 by omega] at f3
  obtain ⟨_, _, c1, c2⟩ := C.gr I y _ hm
  have e0 : de a = 0 ↔ ¬ deG S mw y (ML.getD a 0) := by
    rw [M.del I F]
    rcases h7 a ha with ⟨z1, z2⟩ | ⟨z1, z2⟩
    · exact ⟨fun z => by rw [z1] at z; exact absurd z (by decide), fun z => absurd z2 z⟩
    · exact ⟨fun _ => z2, fun _ => z1⟩
  rw [sdB_iff, e0, M.lost I F hp c1, M.lost I F hp c2, ← f3.2.1, ← f3.2.2]
end
section
/-! 99zzv.lengths.lean.txt -/
/-- how long a line is, and where it stands -/
def tsS (S : Stk) (x : Nat) : Nat := min 500 (S.ll x).toNatClampNeg
def taS (S : Stk) (x : Nat) : Nat := (S.la x).toNatClampNeg
theorem sInv.lnl {S : Stk} (I : sInv S) {c q : Nat} (hc : c < S.FC S.P) (h2 : S.f (S.CA c) = 2) (hq : q < nLn S c) : S.la (S.CL c + q) = nI (lnP S.f (lnAt S.f (S.CA c) + 2) q + 2) ∧ S.ll (S.CL c + q) = nI (tw S.f (lnP S.f (lnAt S.f (S.CA c) + 2) q)) ∧ 1 ≤ tw S.f (lnP S.f (lnAt S.f (S.CA c) + 2) q) ∧ tw S.f (lnP S.f (lnAt S.f (S.CA c) + 2) q) ≤ 500 ∧ lnP S.f (lnAt S.f (S.CA c) + 2) q + 2 + tw S.f (lnP S.f (lnAt S.f (S.CA c) + 2) q) ≤ S.FR S.P := by
  obtain ⟨p, j, h1, hj, h3⟩ := I.own (Nat.le_refl _) hc
  have h4 := (I.pi p h1).li j hj (by rw [← h3]; exact h2)
  rw [← h3] at h4
  obtain ⟨g1, g2, _⟩ := h4 q hq
  have h5 := I.chg h1 hj
  rw [← h3] at h5
  have h6 := I.frm (i := p + 1) (k := S.P) (by omega) (Nat.le_refl _)
  rcases h5 with h | h | h | h | h
  · rw [h2] at h; exact absurd h.1 (by decide)
  · rw [h2] at h; exact absurd h.1 (by decide)
  · obtain ⟨q1, q2, k1, k2, k3, k4, k5⟩ := h.2
    have e : lnAt S.f (S.CA c) = q2 := by
      unfold lnAt
      rw [k1.end, k2.end]
    have hq' : q < tw S.f q2 := by unfold nLn at hq; rw [e] at hq; exact hq
    obtain ⟨m1, m2, m3, m4, _⟩ := k5.at q hq'
    rw [e] at g1 g2 ⊢
    exact ⟨g1, g2, m2, m3, by omega⟩
  · rw [h2] at h; exact absurd h.1 (by decide)
  · rw [h2] at h; exact absurd h.1 (by decide)
theorem sInv.lnt {S : Stk} (I : sInv S) {l : Nat} (hl : l < S.NLp S.P) : S.ll l = nI (tsS S l) ∧ 1 ≤ tsS S l ∧ tsS S l ≤ 500 ∧ S.la l = nI (taS S l) ∧ taS S l + tsS S l ≤ S.FR S.P := by
  obtain ⟨g1, g2, g3, g4⟩ := I.lno hl
  have h := I.lnl g1 g2 (show l - S.CL (lcS S l) < nLn S (lcS S l) by omega)
  rw [show S.CL (lcS S l) + (l - S.CL (lcS S l)) = l by omega] at h
  obtain ⟨h1, h2, h3, h4, h5⟩ := h
  have hF := I.frP
  have e1 : tsS S l = tw S.f (lnP S.f (lnAt S.f (S.CA (lcS S l)) + 2) (l - S.CL (lcS S l))) := by
    unfold tsS
    rw [h2, nI_clamp (by omega)]; omega
  have e2 : taS S l = lnP S.f (lnAt S.f (S.CA (lcS S l)) + 2) (l - S.CL (lcS S l)) + 2 := by
    unfold taS
    rw [h1, nI_clamp (by omega)]
  rw [e1, e2]
  exact ⟨h2, h3, h4, h1, h5⟩
/-- what must hold so that the graph of a closed set can be laid -/
theorem clo.grS {S : Stk} {Z : StkA} {mw : Nat → Int64} (C : clo S mw) (I : sInv S) (R : rep S Z) (y : Nat) : grS S Z mw y (fun x => S.pc (lcS S x)) (tsS S) := by
  have F := fwB_fb mw S.P
  have hF := I.fcP
  have hP := I.hP
  refine ⟨C.gr I y, fun p hp hb => C.rf I y hp hb, fun x hx => ?_, fun x hx => ?_, fun x => ?_⟩
  · have hx1 := ((mrp.row I F).mp hx).1
    obtain ⟨g1, g2, g3, g4⟩ := I.lno hx1
    have lx := I.lnf g1 g2 (show x - S.CL (lcS S x) < nLn S (lcS S x) by omega)
    rw [show S.CL (lcS S x) + (x - S.CL (lcS S x)) = x by omega] at lx
    obtain ⟨hp, j, hj, e⟩ := I.pcs g1
    refine ⟨lcS S x, lx.1, by omega, ?_, by show S.pc (lcS S x) < 500; omega⟩
    have := R.2.2.2.2.2.2.2.1 _ j hp hj
    rw [← e] at this
    exact this
  · exact (I.lnt ((mrp.row I F).mp hx).1).1
  · unfold tsS
    omega
/-- the reference's rows of a line -/
theorem mrp.lq {S : Stk} {Z : Mda} {G : Gr} (M : mrp S Z G) (I : sInv S) : ∀ l, l < S.NLp S.P → Z.ts l = nI (tsS S l) ∧ tsS S l ≤ 500 ∧ Z.ta l = nI (taS S l) ∧ taS S l + tsS S l ≤ 200000 ∧ Z.fc (S.pc (lcS S l)) = nI (S.FC (S.pc (lcS S l))) ∧ S.FC (S.pc (lcS S l)) ≤ lcS S l ∧ Z.la (lcS S l) = nI (S.CL (lcS S l)) ∧ S.CL (lcS S l) ≤ l ∧ lcS S l < S.FC S.P := fun l hl => by
  obtain ⟨g1, g2, g3, g4⟩ := I.lno hl
  obtain ⟨t1, t2, t3, t4, t5⟩ := I.lnt hl
  have hFr := I.frP
  have hN := I.nlP
  obtain ⟨p, j, h1, hj, h3, hpc, h5, o, h6⟩ := M.ch I g1
  obtain ⟨k1, k2, k3, k4, k5⟩ := h6.2.2.2.2.1 g2
  obtain ⟨z1, z2, z3⟩ := k5 (l - S.CL (lcS S l)) (by unfold nLn at g4; omega) (by omega)
  rw [show S.CL (lcS S l) + (l - S.CL (lcS S l)) = l by omega] at z2 z3
  have hh := I.lnl g1 g2 (show l - S.CL (lcS S l) < nLn S (lcS S l) by omega)
  rw [show S.CL (lcS S l) + (l - S.CL (lcS S l)) = l by omega] at hh
  refine ⟨?_, t3, ?_, by omega, ?_, ?_, k1, g3, g1⟩
  · rw [← t1, z3]; exact hh.2.1.symm
  · rw [← t4, z2]; exact hh.1.symm
  · exact (M.2.2.1 _ (Nat.le_of_lt (I.pcs g1).1)).2
  · obtain ⟨_, j', _, e⟩ := I.pcs g1
    omega
end
section
/-! 99zzw.leans.lean.txt -/
/-- patch a leans on patch b -/
def loS (S : Stk) (a b : Nat) : Prop := b < 512 ∧ btr S.lo (a * 8) b = true
theorem sInv.loR {S : Stk} (I : sInv S) : loR S.P (loS S) S.FD S.DP := by
  have hP := I.hP
  have key : ∀ p, p < S.P → ∀ k, S.FD p ≤ k → k < S.FD (p + 1) → k - S.FD p < S.nd p ∧ S.dp p (k - S.FD p) = S.DP k := fun p hp k h1 h2 => by
    rw [(I.pi p hp).fd] at h2
    refine ⟨by omega, ?_⟩
    show S.DP (S.FD p + (k - S.FD p)) = S.DP k
    rw [show S.FD p + (k - S.FD p) = k by omega]
  refine ⟨fun p hp k h1 h2 => ?_, fun p hp x => ?_⟩
  · obtain ⟨z1, z2⟩ := key p hp k h1 h2
    rw [← z2]
    exact ((I.pi p hp).dep _ z1).1
  · constructor
    · rintro ⟨h1, h2⟩
      obtain ⟨k, hk, h3⟩ := ((I.pi p hp).ln x h1).mp h2
      refine ⟨S.FD p + k, by omega, by rw [(I.pi p hp).fd]; omega, ?_⟩
      rcases h3 with h3 | h3
      · exact Or.inl h3.symm
      · exact Or.inr ⟨h1, h3⟩
    · rintro ⟨k, h1, h2, h3⟩
      obtain ⟨z1, z2⟩ := key p hp k h1 h2
      have hd := ((I.pi p hp).dep _ z1).1
      rw [z2] at hd
      rcases h3 with h3 | ⟨h3, h4⟩
      · have hx : x < 512 := by omega
        exact ⟨hx, ((I.pi p hp).ln x hx).mpr ⟨_, z1, Or.inl (by rw [z2]; exact h3.symm)⟩⟩
      · exact ⟨h3, ((I.pi p hp).ln x h3).mpr ⟨_, z1, Or.inr (by rw [z2]; exact h4)⟩⟩
theorem gnR_lo {S : Stk} (I : sInv S) {sf on : Nat → Int32} {p : Nat} {v : Int32} (hp : p < S.P) : gnR sf (S.FC S.P) S.pc (kdS S) on (loS S) p v ↔ gnR sf (S.FC S.P) S.pc (kdS S) on (fun a b => btr S.lo (a * 8) b = true) p v := by
  have hP := I.hP
  constructor
  · rintro ⟨c, h1, h2, h3, h4, h5, h6, h7⟩
    have hq := (I.pcs h1).1
    exact ⟨c, h1, h2, h3, h4, h5, fun z => h6 ⟨by omega, z⟩, fun z => h7 ⟨by omega, z⟩⟩
  · rintro ⟨c, h1, h2, h3, h4, h5, h6, h7⟩
    exact ⟨c, h1, h2, h3, h4, h5, fun z => h6 z.2, fun z => h7 z.2⟩
theorem sdB_lo {S : Stk} (I : sInv S) {sf on tw9 de : Nat → Int32} {MB : Nat → Nat} {n : Nat} (h : ∀ a, a < n → lcS S (MB a) < S.FC S.P) : cnt (sdB sf (S.FC S.P) S.pc (kdS S) (lcS S) MB on tw9 de (loS S)) n = cnt (sdB sf (S.FC S.P) S.pc (kdS S) (lcS S) MB on tw9 de (fun a b => btr S.lo (a * 8) b = true)) n := by
  refine cnt_congr n (fun a ha => ?_)
  have hp := (I.pcs (h a ha)).1
  rw [Bool.eq_iff_iff, sdB_iff, sdB_iff, gnR_lo I hp, gnR_lo I hp]
/-- the reference's rows of dependencies -/
theorem mrp.dep {S : Stk} {Z : Mda} {G : Gr} (M : mrp S Z G) (I : sInv S) : (∀ i, i ≤ S.P → Z.da i = nI (S.FD i) ∧ S.FD i ≤ S.FD S.P) ∧ (∀ i, i < S.P → S.FD i ≤ S.FD (i + 1)) ∧ S.FD S.P ≤ 6300 ∧ ∀ k, k < S.FD S.P → Z.ds k = nI (S.DP k) ∧ S.DP k < 500 := by
  have hP := I.hP
  have h32 := I.fd32 S.P (Nat.le_refl _)
  have hF := I.frP
  refine ⟨fun i hi => ⟨(M.2.2.1 i hi).1, I.fdm hi (Nat.le_refl _)⟩, fun i hi => I.fdm (by omega) (by omega), by omega, fun k hk => ⟨M.2.2.2.1 k hk, ?_⟩⟩
  have own : ∀ n, n ≤ S.P → k < S.FD n → ∃ p, p < n ∧ S.FD p ≤ k ∧ k < S.FD (p + 1) := fun n => by
    induction n with
    | zero => intro _ z; rw [I.fd0] at z; exact absurd z (Nat.not_lt_zero _)
    | succ n ih =>
      intro hn z
      by_cases e : k < S.FD n
      · obtain ⟨p, h1, h2⟩ := ih (by omega) e
        exact ⟨p, by omega, h2⟩
      · exact ⟨n, by omega, by omega, z⟩
  obtain ⟨p, h1, h2, h3⟩ := own S.P (Nat.le_refl _) hk
  have := I.loR.1 p h1 k h2 h3
  omega
end
