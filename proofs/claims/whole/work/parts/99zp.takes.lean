/-! 99zp.takes.lean.txt -/
theorem sInv.cfk {S : Stk} (I : sInv S) : ∀ k, k ≤ S.P → ∀ i, i < S.FC k → S.CF i < S.NFp k := by
  intro k
  induction k with
  | zero => intro _ i h; rw [I.fc0] at h; exact absurd h (Nat.not_lt_zero _)
  | succ k ih =>
    intro hk i h
    have p := I.pi k (by omega)
    rw [p.fc] at h
    rw [p.nf]
    exact rsA.lt (fun q z => (p.dep q z).1) (fun q z => I.fcm (by omega) (by omega)) (ih (by omega)) p.rs i h
theorem sInv.loZ {S : Stk} (I : sInv S) {y : Nat} : ∀ {p}, p ≤ S.P → S.NFp p ≤ y → S.LOp p y = 0
  | 0, _, _ => I.lo0 y
  | p + 1, hp, hy => by
    have hi := I.pi p (by omega)
    have m1 := I.nfm (i := p) (k := p + 1) (by omega) hp
    rw [hi.lo, lcs_out (fun i z k => ?_)]
    · exact sInv.loZ I (by omega) (by omega)
    · have h1 := I.cfk (p + 1) hp (S.FC p + i) (by rw [hi.fc]; omega)
      omega
theorem lcs_le {f : Nat → Int32} {CA CF LO : Nat → Nat} {c0 NL0 : Nat} (y : Nat) : ∀ j, lcs f CA CF c0 j LO y + NL0 ≤ LO y + NLs f CA c0 NL0 j
  | 0 => Nat.le_refl _
  | j + 1 => by
    have ih := lcs_le (f := f) (CA := CA) (CF := CF) (LO := LO) (c0 := c0) (NL0 := NL0) y j
    by_cases k : f (CA (c0 + j)) = 2
    · rw [lcs_eq k, NLs_eq k]
      by_cases e : y = CF (c0 + j)
      · rw [← e, upN_eq]; omega
      · rw [upN_ne _ e]; omega
    · rw [lcs_ne k, NLs_ne k]; exact ih
theorem stl_1 {S S1 : Stk} {bf hs : Nat → Int32} {en : Nat} {mw : Nat → Int64} {r1 : Int32} (h : stl S bf hs en mw r1 S1) (hk : ¬ kept bf (S.FR S.P) en) : r1 = -1 ∧ S1 = S := by
  rcases h with ⟨a, b, _⟩ | ⟨_, _, c, _⟩ | ⟨_, c, _⟩ | ⟨c, _⟩
  · exact ⟨a, b⟩
  all_goals exact absurd c hk
theorem stl_2 {S S1 : Stk} {bf hs : Nat → Int32} {en : Nat} {mw : Nat → Int64} {r1 : Int32} (h : stl S bf hs en mw r1 S1) (hk : kept bf (S.FR S.P) en) (hd : ¬ dpOk S bf hs mw) : r1 = -2 ∧ S1 = S := by
  rcases h with ⟨_, _, c⟩ | ⟨a, b, _, _⟩ | ⟨_, _, c, _⟩ | ⟨_, c, _⟩
  · exact absurd hk c
  · exact ⟨a, b⟩
  all_goals exact absurd c hd
theorem stl_h {S S1 : Stk} {bf hs : Nat → Int32} {en i : Nat} {mw : Nat → Int64} {r1 : Int32} (I : sInv S) (h : stl S bf hs en mw r1 S1) (hk : kept bf (S.FR S.P) en) (hd : dpOk S bf hs mw) (hh : hit S bf en i) : S1 = S ∧ ((rowIn S.lo mw (S.BH i * 8) ∧ r1 = nI (S.BH i)) ∨ (¬ rowIn S.lo mw (S.BH i * 8) ∧ r1 = -2)) := by
  rcases h with ⟨_, _, c⟩ | ⟨_, _, _, c⟩ | ⟨a, _, _, i2, h2, c⟩ | ⟨_, _, c, _⟩
  · exact absurd hk c
  · exact absurd hd c
  · have e : i2 = i := by
      have e1 := h2.2.trans hh.2.symm
      have g1 := h2.1
      have g2 := hh.1
      rcases Nat.lt_trichotomy i2 i with z | z | z
      · exact absurd e1 (fun q => absurd (I.up i2 i z g2) (by rw [q]; exact List.lt_irrefl _))
      · exact z
      · exact absurd e1 (fun q => absurd (I.up i i2 z g1) (by rw [q]; exact List.lt_irrefl _))
    rw [e] at c
    exact ⟨a, c⟩
  · exact absurd hh (c i)
theorem stl_3 {S S1 : Stk} {bf hs : Nat → Int32} {en : Nat} {mw : Nat → Int64} {r1 : Int32} (h : stl S bf hs en mw r1 S1) (hk : kept bf (S.FR S.P) en) (hd : dpOk S bf hs mw) (hn : ∀ i, ¬ hit S bf en i) (hc : ¬ ∃ CF1, cfOk S bf hs en CF1) : r1 = -3 ∧ S1 = S := by
  rcases h with ⟨_, _, c⟩ | ⟨_, _, _, c⟩ | ⟨_, _, _, i2, h2, _⟩ | ⟨_, _, _, c⟩
  · exact absurd hk c
  · exact absurd hd c
  · exact absurd h2 (hn i2)
  · rcases c with ⟨a, b, _⟩ | ⟨_, _, b, _⟩ | ⟨CF1, b, _⟩
    · exact ⟨a, b⟩
    · exact absurd b hc
    · exact absurd ⟨CF1, b⟩ hc
theorem stl_4 {S S1 : Stk} {bf hs : Nat → Int32} {en : Nat} {mw : Nat → Int64} {r1 : Int32} {CFu : Nat → Nat} (h : stl S bf hs en mw r1 S1) (hk : kept bf (S.FR S.P) en) (hd : dpOk S bf hs mw) (hn : ∀ i, ¬ hit S bf en i) (hc : cfOk S bf hs en CFu) (hm : ¬ nmOk S bf en) : r1 = -4 ∧ S1 = S := by
  rcases h with ⟨_, _, c⟩ | ⟨_, _, _, c⟩ | ⟨_, _, _, i2, h2, _⟩ | ⟨_, _, _, c⟩
  · exact absurd hk c
  · exact absurd hd c
  · exact absurd h2 (hn i2)
  · rcases c with ⟨_, _, b⟩ | ⟨a, b, _, _⟩ | ⟨CF1, _, b, _⟩
    · exact absurd ⟨CFu, hc⟩ b
    · exact ⟨a, b⟩
    · exact absurd b hm
theorem cfOk.same {S : Stk} {bf hs : Nat → Int32} {en : Nat} {CF1 CF2 : Nat → Nat} (I : sInv S) (hnd : tw bf (S.FR S.P) ≤ 2048) (hD : ∀ i, i < tw bf (S.FR S.P) → dpN S bf hs i < S.P) (h1 : cfOk S bf hs en CF1) (h2 : cfOk S bf hs en CF2) : ∀ i, i < S.FC S.P + tw bf (S.FR S.P + 2 + tw bf (S.FR S.P) * 32) → CF1 i = CF2 i := rsA.same hnd hD (fun i z => I.fcm (i := i + 1) (k := S.P) (by omega) (Nat.le_refl _)) (fun i z => (h1.1 i z).trans (h2.1 i z).symm) h1.2 h2.2
theorem fuOk.same {S : Stk} {bf hs : Nat → Int32} {en : Nat} {CF1 CF2 : Nat → Nat} (I : sInv S) (hnd : tw bf (S.FR S.P) ≤ 2048) (hD : ∀ i, i < tw bf (S.FR S.P) → dpN S bf hs i < S.P) (h1 : cfOk S bf hs en CF1) (h2 : cfOk S bf hs en CF2) (h : fuOk S bf en CF1) : fuOk S bf en CF2 := by
  have e := cfOk.same I hnd hD h1 h2
  rcases h with a | a | a | a | ⟨j, b1, b2, b3⟩
  · exact Or.inl a
  · exact Or.inr (Or.inl a)
  · exact Or.inr (Or.inr (Or.inl a))
  · exact Or.inr (Or.inr (Or.inr (Or.inl a)))
  · refine Or.inr (Or.inr (Or.inr (Or.inr ⟨j, b1, b2, ?_⟩)))
    rw [← e _ (by omega), ← show lcs bf (caX S bf en) CF1 (S.FC S.P) (j + 1) (S.LOp S.P) = lcs bf (caX S bf en) CF2 (S.FC S.P) (j + 1) (S.LOp S.P) from lcs_cg (fun i z => ⟨rfl, e _ (by omega), rfl, fun _ => rfl⟩)]
    exact b3
theorem stl_5 {S S1 : Stk} {bf hs : Nat → Int32} {en : Nat} {mw : Nat → Int64} {r1 : Int32} {CFu : Nat → Nat} (I : sInv S) (hnd : tw bf (S.FR S.P) ≤ 2048) (hD : ∀ i, i < tw bf (S.FR S.P) → dpN S bf hs i < S.P) (h : stl S bf hs en mw r1 S1) (hk : kept bf (S.FR S.P) en) (hd : dpOk S bf hs mw) (hn : ∀ i, ¬ hit S bf en i) (hc : cfOk S bf hs en CFu) (hm : nmOk S bf en) : (fuOk S bf en CFu ∧ r1 = -5 ∧ S1 = S) ∨ (¬ fuOk S bf en CFu ∧ r1 = nI S.P ∧ sInv S1 ∧ ∃ CF1 BH1 hf1 lo1 lb1 la ll lc lp lu ld ad, cfOk S bf hs en CF1 ∧ S1 = S.ext bf en (dpN S bf hs) CF1 BH1 (tw bf (S.FR S.P)) (tw bf (S.FR S.P + 2 + tw bf (S.FR S.P) * 32)) hf1 lo1 lb1 la ll lc lp lu ld ad) := by
  rcases h with ⟨_, _, c⟩ | ⟨_, _, _, c⟩ | ⟨_, _, _, i2, h2, _⟩ | ⟨_, _, _, c⟩
  · exact absurd hk c
  · exact absurd hd c
  · exact absurd h2 (hn i2)
  · rcases c with ⟨_, _, b⟩ | ⟨_, _, _, b⟩ | ⟨CF1, b, _, c⟩
    · exact absurd ⟨CFu, hc⟩ b
    · exact absurd hm b
    · rcases c with ⟨c1, c2, c3⟩ | ⟨c1, c2, BH1, hf1, lo1, lb1, la, ll, lc, lp, lu, ld, ad, c3, c4⟩
      · exact Or.inl ⟨fuOk.same I hnd hD b hc c3, c1, c2⟩
      · exact Or.inr ⟨fun z => c2 (fuOk.same I hnd hD hc b z), c1, c4, CF1, BH1, hf1, lo1, lb1, la, ll, lc, lp, lu, ld, ad, b, c3⟩
theorem mrp.sqH {S : Stk} {Z : Mda} {G : Gr} (h : mrp S Z G) {q : Nat} (hq : q < S.P) : sq (G.H q) 0 32 = sq S.hf (q * 32) 32 := sq_congr 32 _ _ (fun k hk => by rw [Nat.zero_add]; exact h.2.2.2.2.1.2.2 q k hq hk)
theorem fd_isP {S : Stk} {Z : Mda} {G : Gr} {bf hs : Nat → Int32} {j q : Nat} (I : sInv S) (R : ∀ i, i < S.P * 32 → hs i = S.hf i) (h : mrp S Z G) : fdR G.H S.P bf j q ↔ isP hs S.BH S.P bf j q := by
  constructor
  · rintro ⟨h1, h2⟩
    obtain ⟨i, z1, z2⟩ := I.sur q h1
    refine ⟨i, z1, ?_, z2.symm⟩
    rw [rep.sq I R z1, z2, ← h.sqH h1]
    exact h2
  · rintro ⟨i, z1, z2, z3⟩
    have h1 : q < S.P := by rw [z3]; exact I.bh i z1
    refine ⟨h1, ?_⟩
    rw [h.sqH h1, z3, ← rep.sq I R z1]
    exact z2
theorem fd_uniq {S : Stk} {Z : Mda} {G : Gr} {bf : Nat → Int32} (I : sInv S) (h : mrp S Z G) : ∀ q q2 j, fdR G.H S.P bf j q → fdR G.H S.P bf j q2 → q = q2 := fun q q2 j h1 h2 => isP.uniq (hf := S.hf) (Bh := S.BH) I.up ((fd_isP I (fun _ _ => rfl) h).mp h1) ((fd_isP I (fun _ _ => rfl) h).mp h2)
theorem fd_hit {S : Stk} {Z : Mda} {G : Gr} {bf gi h9 : Nat → Int32} {n q : Nat} (I : sInv S) (h : mrp S Z G) (hin : ∀ i, i < n → gi i = bf (S.FR S.P + i)) : fdR G.H S.P (sh_out (dg gi 0 n) 0 32 h9) 0 q ↔ ∃ i, hit S bf (S.FR S.P + n) i ∧ S.BH i = q := by
  have e : sq (sh_out (dg gi 0 n) 0 32 h9) 0 32 = sq (sh_outb (dg bf (S.FR S.P) (S.FR S.P + n - S.FR S.P))) 0 32 := sq_congr 32 _ _ (fun k hk => by
    rw [Nat.zero_add, Nat.add_sub_cancel_left]
    unfold sh_out
    rw [if_pos ⟨Nat.zero_le _, by omega⟩, Nat.sub_zero]
    exact outb_cg (dg_congr (fun i z => by rw [Nat.zero_add]; exact hin i z)) hk)
  unfold fdR hit
  rw [e]
  constructor
  · rintro ⟨h1, h2⟩
    obtain ⟨i, z1, z2⟩ := I.sur q h1
    refine ⟨i, ⟨z1, ?_⟩, z2⟩
    rw [z2, ← h.sqH h1]
    exact h2
  · rintro ⟨i, ⟨z1, z2⟩, z3⟩
    have h1 : q < S.P := by rw [← z3]; exact I.bh i z1
    refine ⟨h1, ?_⟩
    rw [h.sqH h1, ← z3]
    exact z2
/-- flags hold a set of bits -/
def fb (sf : Nat → Int32) (mw : Nat → Int64) (P : Nat) : Prop := ∀ q, q < P → flg (sf q) (bt mw q = true)
theorem fb.one {sf : Nat → Int32} {mw : Nat → Int64} {P q : Nat} (h : fb sf mw P) (hq : q < P) : sf q = 1 ↔ bt mw q = true := by
  rcases h q hq with ⟨a, b⟩ | ⟨a, b⟩
  · exact ⟨fun _ => b, fun _ => a⟩
  · exact ⟨fun z => by rw [a] at z; exact absurd z (by decide), fun z => absurd z b⟩
theorem fb.z1 {sf : Nat → Int32} {mw : Nat → Int64} {P q : Nat} (h : fb sf mw P) (hq : q < P) : sf q = 0 ∨ sf q = 1 := (h q hq).elim (fun z => Or.inr z.1) (fun z => Or.inl z.1)
theorem dp_ok {S : Stk} {Z : Mda} {G : Gr} {bf hs sf : Nat → Int32} {mw : Nat → Int64} (I : sInv S) (R : ∀ i, i < S.P * 32 → hs i = S.hf i) (h : mrp S Z G) (hb : fb sf mw S.P) : dpOk S bf hs mw ↔ ∀ k, k < (tw bf (S.FR S.P)) → ∃ q, fdR G.H S.P bf (S.FR S.P + 2 + k * 32) q ∧ sf q = 1 := by
  unfold dpOk
  refine forall_congr' (fun k => forall_congr' (fun hk => ?_))
  unfold depOk
  refine exists_congr (fun q => ?_)
  rw [← fd_isP I R h]
  refine and_congr_right (fun z => ?_)
  rw [re_ok_bt (by have := I.hP; have := z.1; omega), hb.one z.1]
/-- a set that has what its members lean on -/
def clo (S : Stk) (mw : Nat → Int64) : Prop := ∀ p, p < S.P → bt mw p = true → rowIn S.lo mw (p * 8)
theorem row_all {S : Stk} {mw : Nat → Int64} {q : Nat} (I : sInv S) (hc : clo S mw) (hq : q < S.P) : rowIn S.lo mw (q * 8) ↔ ∀ k, S.FD q ≤ k → k < S.FD (q + 1) → bt mw (S.DP k) = true := by
  have hi := I.pi q hq
  have hfd := hi.fd
  constructor
  · intro h k h1 h2
    have hk : k - S.FD q < S.nd q := by omega
    have hd := hi.dep _ hk
    have ed : S.dp q (k - S.FD q) = S.DP k := by unfold Stk.dp; rw [show S.FD q + (k - S.FD q) = k by omega]
    rw [ed] at hd
    have hP := I.hP
    exact h _ (by omega) ((hi.ln _ (by omega)).mpr ⟨_, hk, Or.inl ed.symm⟩)
  · intro h x hx hb
    obtain ⟨k, h1, h2⟩ := (hi.ln x hx).mp hb
    have hd := hi.dep k h1
    have hm : bt mw (S.dp q k) = true := h _ (Nat.le_add_right _ _) (by omega)
    rcases h2 with h2 | h2
    · rw [h2]; exact hm
    · exact hc _ (by omega) hm x hx h2
/-- the rows behind a candidate that was not kept -/
def Mda.bk (Z Zu : Mda) (P cc : Nat) (fl1 : Nat → Int32) : Mda := Mda.mk Z.by₇ Z.at₇ Z.le Z.da (upd Z.fc P (nI cc)) Z.ds Zu.so Zu.of Zu.fo Zu.on Zu.tw Zu.nt Zu.ns Zu.oa Zu.oc Zu.la Zu.lc Zu.ov Zu.lh Zu.ta Zu.ts Zu.fh fl1 Z.gh Z.ot
theorem mrp.back {S : Stk} {Z Zu : Mda} {G : Gr} {fl1 : Nat → Int32} (I : sInv S) (h : mrp S Z G) (hf : frM (S.FC S.P) (S.NLp S.P) (S.NFp S.P) Z Zu) (hl : ∀ i, i < 200 → fl1 i = Z.fl i) : mrp S (Mda.bk Z Zu S.P (S.FC S.P) fl1) G := by
  obtain ⟨h1, h2, h3, h4, h5, h8, h9, h10, h11⟩ := h
  have fr : frM (S.FC S.P) (S.NLp S.P) (S.NFp S.P) Z (Mda.bk Z Zu S.P (S.FC S.P) fl1) := ⟨hf.1, hf.2.1, Nat.le_refl _, hf.2.2.2⟩
  refine ⟨h1, h2, fun p hp => ?_, h4, h5, fun p j hp hj => ?_, ?_, fun y hy => ?_, h11⟩
  · refine ⟨(h3 p hp).1, ?_⟩
    show upd Z.fc S.P (nI (S.FC S.P)) p = nI (S.FC p)
    by_cases e : p = S.P
    · subst e; exact upd_eq _ _ _
    · rw [upd_ne _ e]; exact (h3 p hp).2
  · have hi := I.pi p hp
    have m2 := I.fcm (i := p + 1) (k := S.P) (by omega) (Nat.le_refl _)
    have l2 := hi.fc
    obtain ⟨z1, o, z2⟩ := h8 p j hp hj
    have hx : S.FC p + j < S.FC S.P := by omega
    refine ⟨(fr.1 _ hx).2.1.trans z1, o, z2.step fr hx (fun k => ?_) (fun k => ?_)⟩
    · rw [hi.cl j hj]
      have q1 : NLs S.f S.CA (S.FC p) (S.NLp p) (j + 1) ≤ NLs S.f S.CA (S.FC p) (S.NLp p) (S.nT p) := NLs_mono _ _ _ _ (by omega)
      rw [NLs_eq k, ← hi.nl] at q1
      exact Nat.le_trans q1 (I.nlm (i := p + 1) (k := S.P) (by omega) (Nat.le_refl _))
    · have q1 : NFs S.f S.CA (S.FC p) (S.NFp p) (j + 1) ≤ NFs S.f S.CA (S.FC p) (S.NFp p) (S.nT p) := NFs_mono _ _ _ _ (by omega)
      rw [NFs_eq k, ← hi.nf] at q1
      have q2 := I.nfm (i := p + 1) (k := S.P) (by omega) (Nat.le_refl _)
      omega
  · refine ⟨fun x hx => (fr.1 x hx).1.trans (h9.1 x hx), fun x hx k => (fr.1 x hx).2.2.1.trans (h9.2.1 x hx k), fun x hx k => ?_, fun x hx k => ?_, h9.2.2.2.2⟩
    · have z := fr.1 x hx
      exact ⟨z.2.2.2.2.2.2.2.2.2.1.trans (h9.2.2.1 x hx k).1, z.2.2.2.2.2.2.2.2.2.2.trans (h9.2.2.1 x hx k).2⟩
    · have z := (fr.1 x hx).2.2.2.2.2.2.1
      exact ⟨z.trans (h9.2.2.2.1 x hx k).1, (h9.2.2.2.1 x hx k).2⟩
  · exact (hl y hy).trans (h10 y hy)
theorem tkI.use {S : Stk} {bf : Nat → Int32} {n : Nat} {DP : Nat → Nat} {j pu : Nat} {CFu : Nat → Nat} {fu0 fu : Int32} {Z Zu : Mda} (I : sInv S) (hk : kept bf (S.FR S.P) (S.FR S.P + n)) (hD : ∀ i, i < (tw bf (S.FR S.P)) → DP i < S.P) (hj : j < (tw bf (S.FR S.P + 2 + tw bf (S.FR S.P) * 32))) (hn : n ≤ 88900) (hcT : S.FC S.P + (tw bf (S.FR S.P + 2 + tw bf (S.FR S.P) * 32)) ≤ 38000) (hn1 : n ≤ 80000 + 32 * (tw bf (S.FR S.P))) (h : tkI S bf n DP j CFu fu0 fu Z Zu) (hA : S.FR S.P + pu = (sS bf (S.FR S.P + n) ((S.FR S.P + 2 + tw bf (S.FR S.P) * 32) + 2) j)) : (caX S bf (S.FR S.P + n)) ((S.FC S.P) + j) = S.FR S.P + pu ∧ (bf (S.FR S.P + pu) = 1 → Zu.ot + b8 (bf (S.FR S.P + pu + 5)) ≤ 70000) ∧ (NLs bf (caX S bf (S.FR S.P + n)) (S.FC S.P) (S.NLp S.P) j) ≤ 100000 ∧ (NFs bf (caX S bf (S.FR S.P + n)) (S.FC S.P) (S.NFp S.P) j) < 39000 ∧ flg fu (fu = 1) ∧ (4000 < (NLs bf (caX S bf (S.FR S.P + n)) (S.FC S.P) (S.NLp S.P) j) → fu = 1) ∧ (∀ y, (lcs bf (caX S bf (S.FR S.P + n)) CFu (S.FC S.P) j (S.LOp S.P)) y < 200000) ∧ (∀ y, (NFs bf (caX S bf (S.FR S.P + n)) (S.FC S.P) (S.NFp S.P) j) ≤ y → (lcs bf (caX S bf (S.FR S.P + n)) CFu (S.FC S.P) j (S.LOp S.P)) y = 0) ∧ pu + 6 ≤ n ∧ chR bf (S.FR S.P + n) (S.FR S.P + pu) (sS bf (S.FR S.P + n) ((S.FR S.P + 2 + tw bf (S.FR S.P) * 32) + 2) (j + 1)) := by
  obtain ⟨⟨i1, i2⟩, i3, i4, i5, i6, i7, i8⟩ := h
  have hL : ∀ i, i < S.P → S.FC (i + 1) ≤ (S.FC S.P) := fun i z => I.fcm (i := i + 1) (k := S.P) (by omega) (Nat.le_refl _)
  have hch := hk.2.2.2.2.1 j hj
  have eA : (caX S bf (S.FR S.P + n)) ((S.FC S.P) + j) = S.FR S.P + pu := by rw [caX_ge, hA]
  have hfr := I.frP
  have hnf := I.nfP
  have hnlP := I.nlP
  have hNL : (NLs bf (caX S bf (S.FR S.P + n)) (S.FC S.P) (S.NLp S.P) j) + ((S.FR S.P + 2 + tw bf (S.FR S.P) * 32) + 2) ≤ S.NLp S.P + (sS bf (S.FR S.P + n) ((S.FR S.P + 2 + tw bf (S.FR S.P) * 32) + 2) j) := NLs_len hk.2.2.2.2.1 (fun i z => caX_ge) j (by omega)
  have hNF : (NFs bf (caX S bf (S.FR S.P + n)) (S.FC S.P) (S.NFp S.P) j) ≤ S.NFp S.P + j := NFs_le _ _ _ _ j
  have hlt := rsA.lt hD hL (fun i z => by rw [i1 i z]; exact I.cfl z) i2
  have hs := hch.1
  rw [← hA] at hch
  have hw := hch.2.W
  refine ⟨eA, fun k => ?_, by omega, by omega, ?_, fun z => ?_, fun y => ?_, fun y hy => ?_, by have := hw.1; omega, hch.2⟩
  · have z := chR_e1 hch.2 k
    rw [← hA] at i6
    omega
  · rcases i8 with ⟨a, _⟩ | ⟨a, _⟩
    · exact Or.inl ⟨a, a⟩
    · exact Or.inr ⟨a, by rw [a]; decide⟩
  · rcases i8 with ⟨a, _⟩ | ⟨_, a⟩
    · exact a
    · exact absurd (Or.inr (Or.inr (Or.inl z))) a
  · have z := lcs_le (f := bf) (CA := (caX S bf (S.FR S.P + n))) (CF := CFu) (LO := S.LOp S.P) (c0 := (S.FC S.P)) (NL0 := S.NLp S.P) y j
    have z2 := I.loP y
    omega
  · rw [lcs_out (fun i z k => ?_)]
    · exact I.loZ (Nat.le_refl _) (Nat.le_trans (NFs_mono _ _ _ _ (Nat.zero_le j)) hy)
    · have z2 := hlt ((S.FC S.P) + i) (by omega)
      omega
theorem tkI.zero {S : Stk} {bf : Nat → Int32} {n : Nat} {DP : Nat → Nat} {fu0 : Int32} {Z : Mda} {G : Gr} (I : sInv S) (A : ∀ i, i < S.FR S.P → S.f i = bf i) (hk : kept bf (S.FR S.P) (S.FR S.P + n)) (h : mrp S Z G) (hf : fu0 = 0 ∨ fu0 = 1) : tkI S bf n DP 0 S.CF fu0 fu0 Z Z := by
  refine ⟨⟨fun _ _ => rfl, fun i z => absurd z (Nat.not_lt_zero _)⟩, ?_, fun i z => absurd z (Nat.not_lt_zero _), frM.rf _ _ _ _, ?_, h.2.2.2.2.2.2.2.1, ?_⟩
  · have h9 := h.2.2.2.2.2.2.1
    have hw : ∀ x, x < S.FC S.P → chW S.f (S.FR S.P) (S.CA x) := fun x z => I.chw (Nat.le_refl _) z
    have ea : ∀ x, x < S.FC S.P → bf ((caX S bf (S.FR S.P + n)) x) = S.f (S.CA x) := fun x z => by rw [caX_lt z]; exact (A _ (by have := (hw x z).1; omega)).symm
    refine ⟨fun x z => ?_, fun x z k => ?_, fun x z k => ?_, fun x z k => ?_, fun x z => ?_⟩
    · rw [ea x z]; exact h9.1 x z
    · rw [ea x z] at k; exact h9.2.1 x z k
    · have z2 : x < S.FC S.P := z
      rw [ea x z2] at k
      obtain ⟨w1, w2, w3, w4⟩ := (hw x z2).2.2.1 k
      rw [clX_lt z2, caX_lt z2, ← lnAt_cg A (hw x z2).1 w2, ← tw_cg A w4]
      exact h9.2.2.1 x z2 k
    · have z2 : x < S.FC S.P := z
      rw [ea x z2] at k
      have w := (hw x z2).2.1 k
      rw [caX_lt z2, ← nmAt_cg A (hw x z2).1, ← A _ (show nmAt S.f (S.CA x) < S.FR S.P from by unfold nmAt; rw [if_neg (by rw [k]; decide)]; exact w)]
      exact h9.2.2.2.1 x z2 k
    · have z2 : x < S.FC S.P := z
      rw [clX_lt z2]; exact h9.2.2.2.2 x z2
  · have := h.2.2.2.2.2.2.2.2
    show 4 * Z.ot + (4 + 32 * (tw bf (S.FR S.P))) ≤ (S.FR S.P + 2 + tw bf (S.FR S.P) * 32) + 2
    omega
  · have e1 : ¬ 200 < (NFs bf (caX S bf (S.FR S.P + n)) (S.FC S.P) (S.NFp S.P) 0) := by have := I.nfP; show ¬ 200 < S.NFp S.P; omega
    have e2 : ¬ 4000 < (NLs bf (caX S bf (S.FR S.P + n)) (S.FC S.P) (S.NLp S.P) 0) := by have := I.nlP; show ¬ 4000 < S.NLp S.P; omega
    have e3 : ¬ ffR bf (caX S bf (S.FR S.P + n)) S.CF (S.FC S.P) 0 (S.LOp S.P) := fun ⟨i, z, _⟩ => absurd z (Nat.not_lt_zero _)
    rcases hf with e | e
    · exact Or.inr ⟨e, fun z => z.elim (fun z => by rw [e] at z; exact absurd z (by decide)) (fun z => z.elim e1 (fun z => z.elim e2 e3))⟩
    · exact Or.inl ⟨e, Or.inl e⟩
theorem tkI.fu {S : Stk} {bf : Nat → Int32} {n j : Nat} {DP : Nat → Nat} {CFu : Nat → Nat} {fu0 fu : Int32} {Z Zu : Mda} (I : sInv S) (hk : kept bf (S.FR S.P) (S.FR S.P + n)) (hj : j = (tw bf (S.FR S.P + 2 + tw bf (S.FR S.P) * 32))) (h : tkI S bf n DP j CFu fu0 fu Z Zu) (h0 : flg fu0 (S.P = 500 ∨ 200000 < S.FR S.P + n ∨ 7000 < S.FD S.P + (tw bf (S.FR S.P)))) : flg fu (fuOk S bf (S.FR S.P + n) CFu) := by
  subst hj
  refine h.2.2.2.2.2.2.iff ?_
  have e1 : fu0 = 1 ↔ (S.P = 500 ∨ 200000 < S.FR S.P + n ∨ 7000 < S.FD S.P + (tw bf (S.FR S.P))) := by
    rcases h0 with ⟨a, b⟩ | ⟨a, b⟩
    · exact ⟨fun _ => b, fun _ => a⟩
    · exact ⟨fun z => by rw [a] at z; exact absurd z (by decide), fun z => absurd z b⟩
  rw [e1]
  unfold fuOk fuR
  have hP := I.hP
  have hfd : ∀ p, p ≤ S.P → 32 * S.FD p ≤ S.FR p := by
    intro p
    induction p with
    | zero => intro _; rw [I.fd0, I.fr0]; omega
    | succ p ih =>
      intro hp
      have z1 := ih (by omega)
      have z2 := I.le1 (p := p) (by omega)
      have z3 := (I.pi p (by omega)).fd
      omega
  have hfd9 := hfd S.P (Nat.le_refl _)
  have hl := hk.2.1
  constructor
  · rintro ((a | a | a) | a | a | a)
    · exact Or.inl (by omega)
    · exact Or.inr (Or.inl a)
    · exact Or.inr (Or.inl (by omega))
    · exact Or.inr (Or.inr (Or.inl a))
    · exact Or.inr (Or.inr (Or.inr (Or.inl a)))
    · exact Or.inr (Or.inr (Or.inr (Or.inr a)))
  · rintro (a | a | a | a | a)
    · exact Or.inl (Or.inl (by omega))
    · exact Or.inl (Or.inr (Or.inl a))
    · exact Or.inr (Or.inl a)
    · exact Or.inr (Or.inr (Or.inl a))
    · exact Or.inr (Or.inr (Or.inr a))
theorem nm_iff {S : Stk} {bf na : Nat → Int32} {n j : Nat} (hj : j = (tw bf (S.FR S.P + 2 + tw bf (S.FR S.P) * 32))) (h : ∀ k, k < (tw bf (S.FR S.P)) → na k = 0) : nmOk S bf (S.FR S.P + n) ↔ ∀ k, k < (tw bf (S.FR S.P)) → ¬ nmXs bf (tw bf (S.FR S.P)) (caX S bf (S.FR S.P + n)) (S.FC S.P) j na k = 0 := by
  subst hj
  unfold nmOk
  refine forall_congr' (fun k => forall_congr' (fun hk => ?_))
  rw [nmXs_pt (n := (tw bf (S.FR S.P))) h _ k hk]
theorem tk_fr {cc NL NF : Nat} {Zu Z1 : Mda} {v w : Int32} (h : tkF cc NL NF Zu.ot Zu.fo Zu.on Zu.tw Zu.ns Zu.nt Zu.oa Zu.oc Zu.ov Zu.la Zu.lc Zu.fh Zu.lh Zu.ta Zu.ts Z1.fo Z1.on Z1.tw Z1.ns Z1.nt Z1.oa Z1.oc Z1.ov Z1.la Z1.lc Z1.fh Z1.lh Z1.ta Z1.ts) (eso : Z1.so = upd Zu.so cc v) (eof : Z1.of = upd Zu.of cc w) (eot : Zu.ot ≤ Z1.ot) : frM cc NL NF Zu Z1 := by
  refine ⟨fun i hi => ?_, h.2.1, eot, h.2.2.1, h.2.2.2⟩
  obtain ⟨a1, a2, a3, a4, a5, a6, a7, a8, a9⟩ := h.1 i (by omega)
  rw [eso, eof, upd_ne _ (by omega), upd_ne _ (by omega)]
  exact ⟨rfl, rfl, a1, a2, a3, a5, a4, a6, a7, a8, a9⟩
theorem otX_le (f : Nat → Int32) (A ot : Nat) : ot ≤ otX f A ot := by
  unfold otX
  split <;> omega
theorem cpy_back (f g c9 : Nat → Int32) (N : Nat) : ∀ i, i < N → va_cpy (va_cpy f c9 0 0 N) g 0 0 N i = f i := by
  intro i hi
  unfold va_cpy
  rw [if_pos ⟨Nat.zero_le _, by omega⟩, if_pos ⟨Nat.zero_le _, by omega⟩]
  congr 1
  omega
theorem sInv.fd32 {S : Stk} (I : sInv S) : ∀ p, p ≤ S.P → 32 * S.FD p ≤ S.FR p := by
  intro p
  induction p with
  | zero => intro _; rw [I.fd0, I.fr0]; omega
  | succ p ih =>
    intro hp
    have z1 := ih (by omega)
    have z2 := I.le1 (p := p) (by omega)
    have z3 := (I.pi p (by omega)).fd
    omega
theorem row_out {D h9 : Nat → Int32} : ∀ k, k < 32 → va_cpy (sh_out D 0 32 h9) (fun _ => 0) 0 0 32 k = sh_outb D k := by
  intro k hk
  unfold va_cpy
  rw [if_pos ⟨Nat.zero_le _, by omega⟩, Nat.zero_add, Nat.sub_zero]
  unfold sh_out
  rw [if_pos ⟨Nat.zero_le _, by omega⟩, Nat.sub_zero]
theorem out_fits {D h9 : Nat → Int32} : ∀ k, k < 32 → fits .byte (.int (sh_out D 0 32 h9 k)) = true := by
  intro k hk
  unfold sh_out
  rw [if_pos ⟨Nat.zero_le _, by omega⟩]
  exact pk_fb _
theorem dp_inj {S : Stk} {bf hs : Nat → Int32} {mw : Nat → Int64} {n : Nat} (I : sInv S) (R : ∀ i, i < S.P * 32 → hs i = S.hf i) (hk : kept bf (S.FR S.P) (S.FR S.P + n)) (hd : dpOk S bf hs mw) : ∀ i k, i < (tw bf (S.FR S.P)) → k < (tw bf (S.FR S.P)) → dpN S bf hs i = dpN S bf hs k → i = k := by
  intro i k hi hk2 e
  have e1 := (dpN_ok I R hd i hi).2.1
  have e2 := (dpN_ok I R hd k hk2).2.1
  rw [e] at e1
  have e3 := e1.symm.trans e2
  have hr := hk.2.2.1
  rcases Nat.lt_trichotomy i k with z | z | z
  · exact absurd e3 (rising.ne hr z hk2)
  · exact z
  · exact absurd e3.symm (rising.ne hr z hi)
/-- what take answers, where settling answers r1 -/
def tkO (S S1 : Stk) (r1 r ft ft' : Int32) (sf sf₇ : Nat → Int32) (sp sp₇ : Nat) : Prop := ((r1 = -1 ∨ r1 = -2 ∨ r1 = -3 ∨ r1 = -4) ∧ r = -1 ∧ ft' = -r1 ∧ sf₇ = sf ∧ sp₇ = sp ∧ S1 = S) ∨ (r1 = -5 ∧ r = -2 ∧ ft' = ft ∧ sf₇ = sf ∧ sp₇ = sp ∧ S1 = S) ∨ (∃ p, p < S1.P ∧ r1 = nI p ∧ r = nI p ∧ ft' = ft ∧ sf₇ = upd sf p 1 ∧ sp₇ = sp + 1)

