/-! 99zo.rows.lean.txt -/
/-- the reference's rows -/
def Mda : Type := (Nat → Int32) × (Nat → Int32) × (Nat → Int32) × (Nat → Int32) × (Nat → Int32) × (Nat → Int32) × (Nat → Int32) × (Nat → Int32) × (Nat → Int32) × (Nat → Int32) × (Nat → Int32) × (Nat → Int32) × (Nat → Int32) × (Nat → Int32) × (Nat → Int32) × (Nat → Int32) × (Nat → Int32) × (Nat → Int32) × (Nat → Int32) × (Nat → Int32) × (Nat → Int32) × (Nat → Int32) × (Nat → Int32) × (Nat → Option Nat) × Nat
def Mda.by' (z9 : Mda) : Nat → Int32 := z9.1
def Mda.at' (z9 : Mda) : Nat → Int32 := z9.2.1
def Mda.le (z9 : Mda) : Nat → Int32 := z9.2.2.1
def Mda.da (z9 : Mda) : Nat → Int32 := z9.2.2.2.1
def Mda.fc (z9 : Mda) : Nat → Int32 := z9.2.2.2.2.1
def Mda.ds (z9 : Mda) : Nat → Int32 := z9.2.2.2.2.2.1
def Mda.so (z9 : Mda) : Nat → Int32 := z9.2.2.2.2.2.2.1
def Mda.of (z9 : Mda) : Nat → Int32 := z9.2.2.2.2.2.2.2.1
def Mda.fo (z9 : Mda) : Nat → Int32 := z9.2.2.2.2.2.2.2.2.1
def Mda.on (z9 : Mda) : Nat → Int32 := z9.2.2.2.2.2.2.2.2.2.1
def Mda.tw (z9 : Mda) : Nat → Int32 := z9.2.2.2.2.2.2.2.2.2.2.1
def Mda.nt (z9 : Mda) : Nat → Int32 := z9.2.2.2.2.2.2.2.2.2.2.2.1
def Mda.ns (z9 : Mda) : Nat → Int32 := z9.2.2.2.2.2.2.2.2.2.2.2.2.1
def Mda.oa (z9 : Mda) : Nat → Int32 := z9.2.2.2.2.2.2.2.2.2.2.2.2.2.1
def Mda.oc (z9 : Mda) : Nat → Int32 := z9.2.2.2.2.2.2.2.2.2.2.2.2.2.2.1
def Mda.la (z9 : Mda) : Nat → Int32 := z9.2.2.2.2.2.2.2.2.2.2.2.2.2.2.2.1
def Mda.lc (z9 : Mda) : Nat → Int32 := z9.2.2.2.2.2.2.2.2.2.2.2.2.2.2.2.2.1
def Mda.ov (z9 : Mda) : Nat → Int32 := z9.2.2.2.2.2.2.2.2.2.2.2.2.2.2.2.2.2.1
def Mda.lh (z9 : Mda) : Nat → Int32 := z9.2.2.2.2.2.2.2.2.2.2.2.2.2.2.2.2.2.2.1
def Mda.ta (z9 : Mda) : Nat → Int32 := z9.2.2.2.2.2.2.2.2.2.2.2.2.2.2.2.2.2.2.2.1
def Mda.ts (z9 : Mda) : Nat → Int32 := z9.2.2.2.2.2.2.2.2.2.2.2.2.2.2.2.2.2.2.2.2.1
def Mda.fh (z9 : Mda) : Nat → Int32 := z9.2.2.2.2.2.2.2.2.2.2.2.2.2.2.2.2.2.2.2.2.2.1
def Mda.fl (z9 : Mda) : Nat → Int32 := z9.2.2.2.2.2.2.2.2.2.2.2.2.2.2.2.2.2.2.2.2.2.2.1
def Mda.gh (z9 : Mda) : Nat → Option Nat := z9.2.2.2.2.2.2.2.2.2.2.2.2.2.2.2.2.2.2.2.2.2.2.2.1
def Mda.ot (z9 : Mda) : Nat := z9.2.2.2.2.2.2.2.2.2.2.2.2.2.2.2.2.2.2.2.2.2.2.2.2
def Mda.mk (by9 : Nat → Int32) (at9 : Nat → Int32) (le9 : Nat → Int32) (da9 : Nat → Int32) (fc9 : Nat → Int32) (ds9 : Nat → Int32) (so9 : Nat → Int32) (of9 : Nat → Int32) (fo9 : Nat → Int32) (on9 : Nat → Int32) (tw9 : Nat → Int32) (nt9 : Nat → Int32) (ns9 : Nat → Int32) (oa9 : Nat → Int32) (oc9 : Nat → Int32) (la9 : Nat → Int32) (lc9 : Nat → Int32) (ov9 : Nat → Int32) (lh9 : Nat → Int32) (ta9 : Nat → Int32) (ts9 : Nat → Int32) (fh9 : Nat → Int32) (fl9 : Nat → Int32) (gh9 : Nat → Option Nat) (ot9 : Nat) : Mda := (by9, at9, le9, da9, fc9, ds9, so9, of9, fo9, on9, tw9, nt9, ns9, oa9, oc9, la9, lc9, ov9, lh9, ta9, ts9, fh9, fl9, gh9, ot9)
/-- the reference's rows hold change x of patch P -/
def chZ (f : Nat → Int32) (DP FC CA CL : Nat → Nat) (P nd x NF o : Nat) (Z : Mda) : Prop := (f (CA x) = 0 ∨ f (CA x) = 1 → Z.ns x = nI (b8 (f (nmAt f (CA x)))) ∧ Z.nt x = nI (nmAt f (CA x) + 1)) ∧ (¬ (f (CA x) = 0 ∨ f (CA x) = 1) → Z.ns x = 0) ∧ (f (CA x) = 1 → Z.oc x = nI (b8 (f (CA x + 5))) ∧ Z.oa x = nI o ∧ o + b8 (f (CA x + 5)) ≤ Z.ot ∧ ∀ i, i < b8 (f (CA x + 5)) → ∃ z, cnR f DP FC P nd x (CA x + 6 + 4 * i) z ∧ Z.ov (o + i) = nI z) ∧ (¬ f (CA x) = 1 → Z.oc x = 0) ∧ (f (CA x) = 2 → Z.la x = nI (CL x) ∧ Z.lc x = nI (tw f (lnAt f (CA x))) ∧ upR f DP FC CL P nd x (CA x + 5) (Z.on x) ∧ upR f DP FC CL P nd x (plEnd f (CA x + 5)) (Z.tw x) ∧ ∀ q, q < tw f (lnAt f (CA x)) → CL x + q < 4000 → Z.lh (CL x + q) = nI x ∧ Z.ta (CL x + q) = nI (lnP f (lnAt f (CA x) + 2) q + 2) ∧ Z.ts (CL x + q) = nI (tw f (lnP f (lnAt f (CA x) + 2) q))) ∧ (¬ f (CA x) = 2 → Z.lc x = 0) ∧ (f (CA x) = 3 ∨ f (CA x) = 4 → ∃ z, cnR f DP FC P nd x (CA x + 1) z ∧ Z.on x = nI (CL z + tw f (CA x + 1 + 4))) ∧ (f (CA x) = 4 → ∃ z, cnR f DP FC P nd x (CA x + 7) z ∧ Z.tw x = nI (CL z + tw f (CA x + 7 + 4))) ∧ (f (CA x) = 0 → NF < 200 → Z.fh NF = nI x)
/-- rows that hold the same below bounds -/
def frM (c0 NL0 NF0 : Nat) (Z Zu : Mda) : Prop := (∀ i, i < c0 → Zu.so i = Z.so i ∧ Zu.of i = Z.of i ∧ Zu.fo i = Z.fo i ∧ Zu.on i = Z.on i ∧ Zu.tw i = Z.tw i ∧ Zu.nt i = Z.nt i ∧ Zu.ns i = Z.ns i ∧ Zu.oa i = Z.oa i ∧ Zu.oc i = Z.oc i ∧ Zu.la i = Z.la i ∧ Zu.lc i = Z.lc i) ∧ (∀ i, i < Z.ot → Zu.ov i = Z.ov i) ∧ Z.ot ≤ Zu.ot ∧ (∀ i, i < NL0 → Zu.lh i = Z.lh i ∧ Zu.ta i = Z.ta i ∧ Zu.ts i = Z.ts i) ∧ ∀ i, i < NF0 → Zu.fh i = Z.fh i
theorem frM.rf (c0 NL0 NF0 : Nat) (Z : Mda) : frM c0 NL0 NF0 Z Z := ⟨fun _ _ => ⟨rfl, rfl, rfl, rfl, rfl, rfl, rfl, rfl, rfl, rfl, rfl⟩, fun _ _ => rfl, Nat.le_refl _, fun _ _ => ⟨rfl, rfl, rfl⟩, fun _ _ => rfl⟩
theorem frM.trans {c0 NL0 NF0 c1 NL1 NF1 : Nat} {Z Z1 Z2 : Mda} (h1 : frM c0 NL0 NF0 Z Z1) (h2 : frM c1 NL1 NF1 Z1 Z2) (ec : c0 ≤ c1) (el : NL0 ≤ NL1) (ef : NF0 ≤ NF1) : frM c0 NL0 NF0 Z Z2 := by
  refine ⟨fun i hi => ?_, fun i hi => (h2.2.1 i (by have := h1.2.2.1; omega)).trans (h1.2.1 i hi), Nat.le_trans h1.2.2.1 h2.2.2.1, fun i hi => ?_, fun i hi => (h2.2.2.2.2 i (by omega)).trans (h1.2.2.2.2 i hi)⟩
  · obtain ⟨a1, a2, a3, a4, a5, a6, a7, a8, a9, a10, a11⟩ := h1.1 i hi
    obtain ⟨b1, b2, b3, b4, b5, b6, b7, b8', b9, b10, b11⟩ := h2.1 i (by omega)
    exact ⟨b1.trans a1, b2.trans a2, b3.trans a3, b4.trans a4, b5.trans a5, b6.trans a6, b7.trans a7, b8'.trans a8, b9.trans a9, b10.trans a10, b11.trans a11⟩
  · obtain ⟨a1, a2, a3⟩ := h1.2.2.2.1 i hi
    obtain ⟨b1, b2, b3⟩ := h2.2.2.2.1 i (by omega)
    exact ⟨b1.trans a1, b2.trans a2, b3.trans a3⟩
theorem chZ.step {f : Nat → Int32} {DP FC CA CL : Nat → Nat} {P nd x NF o c0 NL0 NF0 : Nat} {Z Z1 : Mda} (h : chZ f DP FC CA CL P nd x NF o Z) (hf : frM c0 NL0 NF0 Z Z1) (hx : x < c0) (hl : f (CA x) = 2 → CL x + tw f (lnAt f (CA x)) ≤ NL0) (hn : f (CA x) = 0 → NF < NF0) : chZ f DP FC CA CL P nd x NF o Z1 := by
  obtain ⟨a1, a2, a3, a4, a5, a6, a7, a8, a9, a10, a11⟩ := hf.1 x hx
  obtain ⟨h1, h2, h3, h4, h5, h6, h7, h8, h9⟩ := h
  unfold chZ
  rw [a7, a6, a9, a8, a10, a11, a4, a5]
  refine ⟨h1, h2, fun k => ?_, h4, fun k => ?_, h6, h7, h8, fun k z => (hf.2.2.2.2 _ (hn k)).trans (h9 k z)⟩
  · obtain ⟨b1, b2, b3, b4⟩ := h3 k
    refine ⟨b1, b2, Nat.le_trans b3 hf.2.2.1, fun i hi => ?_⟩
    obtain ⟨z, y1, y2⟩ := b4 i hi
    exact ⟨z, y1, (hf.2.1 _ (by omega)).trans y2⟩
  · obtain ⟨b1, b2, b3, b4, b5⟩ := h5 k
    refine ⟨b1, b2, b3, b4, fun q hq h40 => ?_⟩
    obtain ⟨y1, y2, y3⟩ := b5 q hq h40
    obtain ⟨e1, e2, e3⟩ := hf.2.2.2.1 (CL x + q) (by have := hl k; omega)
    exact ⟨e1.trans y1, e2.trans y2, e3.trans y3⟩
theorem up_of_sd {f : Nat → Int32} {DP FC CA CF CL : Nat → Nat} {P nd cc k y : Nat} {v : Int32} (h : sdV f DP FC CA CL P nd cc k (-1) v) (h2 : ¬ f k = 0 → flR f DP FC CA CF P nd cc (k + 1) y) : upR f DP FC CL P nd cc k v := by
  rcases h with h | ⟨e, h⟩
  · exact Or.inl h
  · refine Or.inr ⟨e, ?_⟩
    rcases h with ⟨x, h, hv⟩ | ⟨h, _⟩
    · exact ⟨x, h.1, hv⟩
    · obtain ⟨x, z1, z2, z3, _⟩ := h2 e
      exact absurd ⟨z1, z2, z3⟩ (h x)
theorem cn_of_ln {f : Nat → Int32} {DP FC CA CF CL : Nat → Nat} {P nd cc k y : Nat} {v : Int32} (h : lnV f DP FC CA CL P nd cc k v) (h2 : flR f DP FC CA CF P nd cc k y) : ∃ z, cnR f DP FC P nd cc k z ∧ v = nI (CL z + tw f (k + 4)) := by
  rcases h with ⟨x, h, hv⟩ | ⟨h, _⟩
  · exact ⟨x, h.1, hv⟩
  · obtain ⟨x, z1, z2, z3, _⟩ := h2
    exact absurd ⟨z1, z2, z3⟩ (h x)
theorem chZ_new {f : Nat → Int32} {DP FC CA CF CL : Nat → Nat} {P nd cc NL NF NG ot y : Nat} {Z1 : Mda} {lh ta ts : Nat → Int32} (eL : CL cc = NL) (eo : Z1.ot = otX f (CA cc) ot) (h : tkV f DP FC CA CL P nd cc (CA cc) NL NF ot lh ta ts Z1.on Z1.tw Z1.ns Z1.nt Z1.oa Z1.oc Z1.ov Z1.la Z1.lc Z1.fh Z1.lh Z1.ta Z1.ts) (hr : rsR f DP FC CA CF CL P nd cc NG (CA cc) y) : chZ f DP FC CA CL P nd cc NF ot Z1 := by
  obtain ⟨v1, v2, v3, v4, v5, v6, v7, v8, v9⟩ := h
  refine ⟨v1, v2, fun k => ?_, v4, fun k => ?_, v6, fun k => ?_, fun k => ?_, v9⟩
  · obtain ⟨a, b, c9⟩ := v3 k
    refine ⟨a, b, ?_, fun i hi => ?_⟩
    · rw [eo]
      unfold otX
      rw [if_pos k]
      exact Nat.le_refl _
    · rcases c9 i hi with z | ⟨z, _⟩
      · exact z
      · obtain ⟨x, hx, _⟩ := ((rsI_1 k).mp hr).2 i hi
        exact absurd hx (z x)
  · obtain ⟨a, b, c9, d, e9⟩ := v5 k
    have hi := (rsI_2 k).mp hr
    rw [eL]
    exact ⟨a, b, up_of_sd d hi.2.1, up_of_sd e9 hi.2.2, fun q hq h4 => c9.2 q hq h4⟩
  · rcases k with k | k
    · exact cn_of_ln (v7 (Or.inl k)) ((rsI_3 k).mp hr)
    · exact cn_of_ln (v7 (Or.inr k)) ((rsI_4 k).mp hr).1
  · exact cn_of_ln (v8 k) ((rsI_4 k).mp hr).2.1
theorem mrR_new {f : Nat → Int32} {CA CF CL : Nat → Nat} {cc y : Nat} {so fo la lc ns so' fo' la' lc' ns' : Nat → Int32} (h : mrR f CA CF CL cc so fo la lc ns) (hso : so' = upd so cc (f (CA cc))) (hx : ∀ i, i < cc → fo' i = fo i ∧ la' i = la i ∧ lc' i = lc i ∧ ns' i = ns i) (hy : y < 40000) (hc : CL cc < 200000) (h1 : f (CA cc) = 0 ∨ f (CA cc) = 1 ∨ f (CA cc) = 2 → fo' cc = nI y) (h2 : f (CA cc) = 2 → la' cc = nI (CL cc) ∧ lc' cc = nI (tw f (lnAt f (CA cc)))) (h3 : f (CA cc) = 1 → ns' cc = f (nmAt f (CA cc)) ∧ ∃ m, m ≤ 64 ∧ f (nmAt f (CA cc)) = nI m) : mrR f CA (upN CF cc y) CL (cc + 1) so' fo' la' lc' ns' := by
  refine ⟨fun x z => ?_, fun x z k => ?_, fun x z k => ?_, fun x z k => ?_, fun x z => ?_⟩
  · rw [hso]
    by_cases e : x = cc
    · subst e; exact upd_eq _ _ _
    · rw [upd_ne _ e]; exact h.1 x (by omega)
  · by_cases e : x = cc
    · subst e; rw [upN_eq]; exact h1 k
    · rw [upN_ne _ e, (hx x (by omega)).1]; exact h.2.1 x (by omega) k
  · by_cases e : x = cc
    · subst e; exact h2 k
    · rw [(hx x (by omega)).2.1, (hx x (by omega)).2.2.1]; exact h.2.2.1 x (by omega) k
  · by_cases e : x = cc
    · subst e; exact h3 k
    · rw [(hx x (by omega)).2.2.2]; exact h.2.2.2.1 x (by omega) k
  · by_cases e : x = cc
    · subst e; rw [upN_eq]; exact ⟨hy, hc⟩
    · rw [upN_ne _ e]; exact h.2.2.2.2 x (by omega)
theorem lcs_upN {f : Nat → Int32} {CA CF LO : Nat → Nat} {c0 j y : Nat} : lcs f CA (upN CF (c0 + j) y) c0 j LO = lcs f CA CF c0 j LO := lcs_cg (fun i z => ⟨rfl, upN_ne _ (by omega), rfl, fun _ => rfl⟩)
theorem ffR_upN {f : Nat → Int32} {CA CF LO : Nat → Nat} {c0 j y : Nat} : ffR f CA (upN CF (c0 + j) y) c0 j LO ↔ ffR f CA CF c0 j LO := by
  unfold ffR
  refine exists_congr (fun i => ?_)
  by_cases hi : i < j
  · rw [upN_ne _ (show ¬ c0 + i = c0 + j by omega), show lcs f CA (upN CF (c0 + j) y) c0 (i + 1) LO = lcs f CA CF c0 (i + 1) LO from lcs_cg (fun q z => ⟨rfl, upN_ne _ (by omega), rfl, fun _ => rfl⟩)]
  · exact ⟨fun z => absurd z.1 hi, fun z => absurd z.1 hi⟩
theorem ffR_s {f : Nat → Int32} {CA CF LO : Nat → Nat} {c0 j : Nat} : ffR f CA CF c0 (j + 1) LO ↔ (ffR f CA CF c0 j LO ∨ (f (CA (c0 + j)) = 2 ∧ 400 < lcs f CA CF c0 j LO (CF (c0 + j)) + tw f (lnAt f (CA (c0 + j))))) := by
  constructor
  · rintro ⟨i, h1, h2, h3⟩
    by_cases e : i = j
    · subst e; rw [lcs_at h2] at h3; exact Or.inr ⟨h2, h3⟩
    · exact Or.inl ⟨i, by omega, h2, h3⟩
  · rintro (⟨i, h1, h2, h3⟩ | ⟨h2, h3⟩)
    · exact ⟨i, by omega, h2, h3⟩
    · exact ⟨j, by omega, h2, by rw [lcs_at h2]; exact h3⟩
/-- where the taking of a candidate stands behind j changes -/
def tkI (S : Stk) (bf : Nat → Int32) (n : Nat) (DP : Nat → Nat) (j : Nat) (CFu : Nat → Nat) (fu0 fu : Int32) (Z Zu : Mda) : Prop := ((∀ i, i < (S.FC S.P) → CFu i = S.CF i) ∧ rsA bf DP S.FC (caX S bf (S.FR S.P + n)) CFu (clX bf (caX S bf (S.FR S.P + n)) S.CL (S.FC S.P) (S.NLp S.P)) S.P (tw bf (S.FR S.P)) (S.FC S.P) (S.NFp S.P) j) ∧ mrR bf (caX S bf (S.FR S.P + n)) CFu (clX bf (caX S bf (S.FR S.P + n)) S.CL (S.FC S.P) (S.NLp S.P)) ((S.FC S.P) + j) Zu.so Zu.fo Zu.la Zu.lc Zu.ns ∧ (∀ i, i < j → Zu.of ((S.FC S.P) + i) = nI S.P ∧ ∃ o, chZ bf DP S.FC (caX S bf (S.FR S.P + n)) (clX bf (caX S bf (S.FR S.P + n)) S.CL (S.FC S.P) (S.NLp S.P)) S.P (tw bf (S.FR S.P)) ((S.FC S.P) + i) (NFs bf (caX S bf (S.FR S.P + n)) (S.FC S.P) (S.NFp S.P) i) o Zu) ∧ frM (S.FC S.P) (S.NLp S.P) (S.NFp S.P) Z Zu ∧ 4 * Zu.ot + (4 + 32 * (tw bf (S.FR S.P))) ≤ (sS bf (S.FR S.P + n) ((S.FR S.P + 2 + tw bf (S.FR S.P) * 32) + 2) j) ∧ (∀ y, y < 200 → Zu.fl y = nI ((lcs bf (caX S bf (S.FR S.P + n)) CFu (S.FC S.P) j (S.LOp S.P)) y)) ∧ flg fu (fu0 = 1 ∨ 200 < (NFs bf (caX S bf (S.FR S.P + n)) (S.FC S.P) (S.NFp S.P) j) ∨ 4000 < (NLs bf (caX S bf (S.FR S.P + n)) (S.FC S.P) (S.NLp S.P) j) ∨ ffR bf (caX S bf (S.FR S.P + n)) CFu (S.FC S.P) j (S.LOp S.P))
theorem chR.gt {f : Nat → Int32} {en a b : Nat} (h : chR f en a b) : a < b := by
  have hk := chR_k h
  rcases hk with k | k | k | k | k
  · have := chR_e0 h k; omega
  · have := chR_e1 h k; omega
  · have := chR_e2 h k
    have h2 := this.2.2 0 (Nat.zero_le _)
    have h3 := (this.2.2 _ (Nat.le_refl _))
    have h4 : ∀ j, lnAt f a + 2 ≤ lnP f (lnAt f a + 2) j := by
      intro j
      induction j with
      | zero => exact Nat.le_refl _
      | succ j ih => show _ ≤ lnP f (lnAt f a + 2) j + 2 + tw f (lnP f (lnAt f a + 2) j); omega
    have h5 := h4 (tw f (lnAt f a))
    have h6 : a + 5 < lnAt f a := by
      unfold lnAt plEnd
      split <;> split <;> omega
    omega
  · have := chR_e3 h k; omega
  · have := chR_e4 h k; omega
theorem tkI.step {S : Stk} {bf : Nat → Int32} {n : Nat} {DP : Nat → Nat} {j : Nat} {CFu : Nat → Nat} {fu0 fu fu' : Int32} {Z Zu Z1 : Mda} (I : sInv S) (hk : kept bf (S.FR S.P) (S.FR S.P + n)) (hD : ∀ i, i < (tw bf (S.FR S.P)) → DP i < S.P) (hj : j < (tw bf (S.FR S.P + 2 + tw bf (S.FR S.P) * 32))) (hb1 : (NFs bf (caX S bf (S.FR S.P + n)) (S.FC S.P) (S.NFp S.P) j) < 39000) (hb2 : (NLs bf (caX S bf (S.FR S.P + n)) (S.FC S.P) (S.NLp S.P) j) < 200000) (h : tkI S bf n DP j CFu fu0 fu Z Zu) (eso : Z1.so = upd Zu.so ((S.FC S.P) + j) (bf ((caX S bf (S.FR S.P + n)) ((S.FC S.P) + j)))) (eof : Z1.of = upd Zu.of ((S.FC S.P) + j) (nI S.P)) (eot : Z1.ot = otX bf ((caX S bf (S.FR S.P + n)) ((S.FC S.P) + j)) Zu.ot) (ht : tkR bf DP S.FC (caX S bf (S.FR S.P + n)) CFu (clX bf (caX S bf (S.FR S.P + n)) S.CL (S.FC S.P) (S.NLp S.P)) (lcs bf (caX S bf (S.FR S.P + n)) CFu (S.FC S.P) j (S.LOp S.P)) S.P (tw bf (S.FR S.P)) ((S.FC S.P) + j) ((caX S bf (S.FR S.P + n)) ((S.FC S.P) + j)) (NLs bf (caX S bf (S.FR S.P + n)) (S.FC S.P) (S.NLp S.P) j) (NFs bf (caX S bf (S.FR S.P + n)) (S.FC S.P) (S.NFp S.P) j) Zu.ot fu 1 fu' Zu.fo Zu.on Zu.tw Zu.ns Zu.nt Zu.oa Zu.oc Zu.ov Zu.la Zu.lc Zu.fl Zu.fh Zu.lh Zu.ta Zu.ts Z1.fo Z1.on Z1.tw Z1.ns Z1.nt Z1.oa Z1.oc Z1.ov Z1.la Z1.lc Z1.fl Z1.fh Z1.lh Z1.ta Z1.ts) : ∃ y, tkI S bf n DP (j + 1) (upN CFu ((S.FC S.P) + j) y) fu0 fu' Z Z1 := by
  obtain ⟨⟨i1, i2⟩, i3, i4, i5, i6, i7, i8⟩ := h
  obtain ⟨f1, hv, -, ha⟩ := ht
  rcases ha with ⟨-, y, r1, r2, r3, r4⟩ | ⟨z9, -⟩
  case inr => exact absurd z9 (by decide)
  have hL : ∀ i, i < S.P → S.FC (i + 1) ≤ (S.FC S.P) := fun i z => I.fcm (i := i + 1) (k := S.P) (by omega) (Nat.le_refl _)
  have hL2 : ∀ i, i < S.P → S.FC (i + 1) ≤ (S.FC S.P) + j := fun i z => Nat.le_trans (hL i z) (by omega)
  have hch := hk.2.2.2.2.1 j hj
  rw [← caX_ge] at hch
  have eCL : (clX bf (caX S bf (S.FR S.P + n)) S.CL (S.FC S.P) (S.NLp S.P)) ((S.FC S.P) + j) = (NLs bf (caX S bf (S.FR S.P + n)) (S.FC S.P) (S.NLp S.P) j) := clX_at _ _ _ _ _ _
  have hlt := rsA.lt hD hL (fun i z => by rw [i1 i z]; exact I.cfl z) i2
  have hylt : bf ((caX S bf (S.FR S.P + n)) ((S.FC S.P) + j)) = 0 ∨ y < (NFs bf (caX S bf (S.FR S.P + n)) (S.FC S.P) (S.NFp S.P) j) := by
    by_cases e : bf ((caX S bf (S.FR S.P + n)) ((S.FC S.P) + j)) = 0
    · exact Or.inl e
    · exact Or.inr (rsR.lt hD hL2 hlt (fun z => absurd z e) r1)
  have hy4 : y < 40000 := by
    rcases hylt with e | e
    · rw [(rsI_0 e).mp r1]; omega
    · omega
  have hNF1 : (NFs bf (caX S bf (S.FR S.P + n)) (S.FC S.P) (S.NFp S.P) j) ≤ (NFs bf (caX S bf (S.FR S.P + n)) (S.FC S.P) (S.NFp S.P) (j + 1)) := NFs_mono _ _ _ _ (Nat.le_succ _)
  have hNL1 : (NLs bf (caX S bf (S.FR S.P + n)) (S.FC S.P) (S.NLp S.P) j) ≤ (NLs bf (caX S bf (S.FR S.P + n)) (S.FC S.P) (S.NLp S.P) (j + 1)) := NLs_mono _ _ _ _ (Nat.le_succ _)
  have hNFz : (NFs bf (caX S bf (S.FR S.P + n)) (S.FC S.P) (S.NFp S.P) 0) ≤ (NFs bf (caX S bf (S.FR S.P + n)) (S.FC S.P) (S.NFp S.P) j) := NFs_mono _ _ _ _ (Nat.zero_le _)
  have hNLz : (NLs bf (caX S bf (S.FR S.P + n)) (S.FC S.P) (S.NLp S.P) 0) ≤ (NLs bf (caX S bf (S.FR S.P + n)) (S.FC S.P) (S.NLp S.P) j) := NLs_mono _ _ _ _ (Nat.zero_le _)
  have fr : frM ((S.FC S.P) + j) (NLs bf (caX S bf (S.FR S.P + n)) (S.FC S.P) (S.NLp S.P) j) (NFs bf (caX S bf (S.FR S.P + n)) (S.FC S.P) (S.NFp S.P) j) Zu Z1 := by
    refine ⟨fun i hi => ?_, f1.2.1, ?_, f1.2.2.1, f1.2.2.2⟩
    · obtain ⟨a1, a2, a3, a4, a5, a6, a7, a8, a9⟩ := f1.1 i (by omega)
      rw [eso, eof, upd_ne _ (by omega), upd_ne _ (by omega)]
      exact ⟨rfl, rfl, a1, a2, a3, a5, a4, a6, a7, a8, a9⟩
    · rw [eot]
      unfold otX
      split <;> omega
  refine ⟨y, ⟨⟨fun i z => by rw [upN_ne _ (by omega)]; exact i1 i z, rsA.step hD hL i2 r1⟩, ?_, ?_, ?_, ?_, ?_, ?_⟩⟩
  · refine mrR_new i3 eso (fun i z => ?_) hy4 (by rw [eCL]; exact hb2) r2 (fun k => ?_) (fun k => ?_)
    · obtain ⟨a1, a2, a3, a4, a5, a6, a7, a8, a9⟩ := f1.1 i (by omega)
      exact ⟨a1, a8, a9, a4⟩
    · have z := hv.2.2.2.2.1 k
      rw [eCL]
      exact ⟨z.1, z.2.1⟩
    · have z := (hv.1 (Or.inr k)).1
      rcases hch.2 with ⟨w, _⟩ | ⟨_, w⟩ | ⟨w, _⟩ | ⟨w, _⟩ | ⟨w, _⟩
      · exact absurd (k.symm.trans w) (by decide)
      · obtain ⟨_, _, _, m, w2, w3, _⟩ := w
        have en : nmAt bf ((caX S bf (S.FR S.P + n)) ((S.FC S.P) + j)) = (caX S bf (S.FR S.P + n)) ((S.FC S.P) + j) + 6 + 4 * b8 (bf ((caX S bf (S.FR S.P + n)) ((S.FC S.P) + j) + 5)) := if_neg (by rw [k]; decide)
        rw [en] at z ⊢
        refine ⟨?_, m, w2, w3⟩
        rw [z, w3, b8_nIs (by omega)]
      all_goals exact absurd (k.symm.trans w) (by decide)
  · intro i hi
    by_cases e : i = j
    · subst e
      exact ⟨by rw [eof, upd_eq], Zu.ot, chZ_new eCL eot hv r1⟩
    · obtain ⟨z1, o, z2⟩ := i4 i (by omega)
      refine ⟨by rw [eof, upd_ne _ (by omega)]; exact z1, o, z2.step fr (by omega) (fun k => ?_) (fun k => ?_)⟩
      · have q1 : (NLs bf (caX S bf (S.FR S.P + n)) (S.FC S.P) (S.NLp S.P) (i + 1)) ≤ (NLs bf (caX S bf (S.FR S.P + n)) (S.FC S.P) (S.NLp S.P) j) := NLs_mono _ _ _ _ (by omega)
        rw [NLs_eq k] at q1
        rw [show (clX bf (caX S bf (S.FR S.P + n)) S.CL (S.FC S.P) (S.NLp S.P)) ((S.FC S.P) + i) = (NLs bf (caX S bf (S.FR S.P + n)) (S.FC S.P) (S.NLp S.P) i) from clX_at _ _ _ _ _ _]
        exact q1
      · have q1 : (NFs bf (caX S bf (S.FR S.P + n)) (S.FC S.P) (S.NFp S.P) (i + 1)) ≤ (NFs bf (caX S bf (S.FR S.P + n)) (S.FC S.P) (S.NFp S.P) j) := NFs_mono _ _ _ _ (by omega)
        rw [NFs_eq k] at q1
        omega
  · exact i5.trans fr (by omega) hNLz hNFz
  · rw [eot]
    have hg := hch.2.gt
    rw [caX_ge] at hg
    unfold otX
    split
    · rename_i k
      have z := (chR_e1 hch.2 k).2
      rw [caX_ge] at z
      rw [caX_ge]
      omega
    · omega
  · intro i hi
    rw [r3 i hi]
    congr 1
    by_cases k : bf ((caX S bf (S.FR S.P + n)) ((S.FC S.P) + j)) = 2
    · rw [loX_y k, lcs_eq k, upN_eq, lcs_upN]
    · rw [loX_n k, lcs_ne k, lcs_upN]
  · refine r4.iff ?_
    rw [ffR_s, ffR_upN, upN_eq, lcs_upN]
    have e1 : fu = 1 ↔ (fu0 = 1 ∨ 200 < (NFs bf (caX S bf (S.FR S.P + n)) (S.FC S.P) (S.NFp S.P) j) ∨ 4000 < (NLs bf (caX S bf (S.FR S.P + n)) (S.FC S.P) (S.NLp S.P) j) ∨ ffR bf (caX S bf (S.FR S.P + n)) CFu (S.FC S.P) j (S.LOp S.P)) := by
      rcases i8 with ⟨a, b⟩ | ⟨a, b⟩
      · exact ⟨fun _ => b, fun _ => a⟩
      · exact ⟨fun z => by rw [a] at z; exact absurd z (by decide), fun z => absurd z b⟩
    rw [e1]
    have eF : ∀ z : bf ((caX S bf (S.FR S.P + n)) ((S.FC S.P) + j)) = 0, (NFs bf (caX S bf (S.FR S.P + n)) (S.FC S.P) (S.NFp S.P) (j + 1)) = (NFs bf (caX S bf (S.FR S.P + n)) (S.FC S.P) (S.NFp S.P) j) + 1 := fun z => NFs_eq z
    have eF2 : ¬ bf ((caX S bf (S.FR S.P + n)) ((S.FC S.P) + j)) = 0 → (NFs bf (caX S bf (S.FR S.P + n)) (S.FC S.P) (S.NFp S.P) (j + 1)) = (NFs bf (caX S bf (S.FR S.P + n)) (S.FC S.P) (S.NFp S.P) j) := fun z => NFs_ne z
    have eL : bf ((caX S bf (S.FR S.P + n)) ((S.FC S.P) + j)) = 2 → (NLs bf (caX S bf (S.FR S.P + n)) (S.FC S.P) (S.NLp S.P) (j + 1)) = (NLs bf (caX S bf (S.FR S.P + n)) (S.FC S.P) (S.NLp S.P) j) + tw bf (lnAt bf ((caX S bf (S.FR S.P + n)) ((S.FC S.P) + j))) := fun z => NLs_eq z
    have eL2 : ¬ bf ((caX S bf (S.FR S.P + n)) ((S.FC S.P) + j)) = 2 → (NLs bf (caX S bf (S.FR S.P + n)) (S.FC S.P) (S.NLp S.P) (j + 1)) = (NLs bf (caX S bf (S.FR S.P + n)) (S.FC S.P) (S.NLp S.P) j) := fun z => NLs_ne z
    constructor
    · rintro ((a | a | a | a) | ⟨a, b⟩ | ⟨a, b | b⟩)
      · exact Or.inl a
      · exact Or.inr (Or.inl (by omega))
      · exact Or.inr (Or.inr (Or.inl (by omega)))
      · exact Or.inr (Or.inr (Or.inr (Or.inl a)))
      · exact Or.inr (Or.inl (by rw [eF a]; omega))
      · exact Or.inr (Or.inr (Or.inr (Or.inr ⟨a, b.2⟩)))
      · exact Or.inr (Or.inr (Or.inl (by rw [eL a]; exact b)))
    · rintro (a | a | a | a | ⟨a, b⟩)
      · exact Or.inl (Or.inl a)
      · by_cases k : bf ((caX S bf (S.FR S.P + n)) ((S.FC S.P) + j)) = 0
        · rw [eF k] at a; exact Or.inr (Or.inl ⟨k, by omega⟩)
        · rw [eF2 k] at a; exact Or.inl (Or.inr (Or.inl a))
      · by_cases k : bf ((caX S bf (S.FR S.P + n)) ((S.FC S.P) + j)) = 2
        · rw [eL k] at a; exact Or.inr (Or.inr ⟨k, Or.inr a⟩)
        · rw [eL2 k] at a; exact Or.inl (Or.inr (Or.inr (Or.inl a)))
      · exact Or.inl (Or.inr (Or.inr (Or.inr a)))
      · by_cases y2 : y < 200
        · exact Or.inr (Or.inr ⟨a, Or.inl ⟨y2, b⟩⟩)
        · refine Or.inl (Or.inr (Or.inl ?_))
          rcases hylt with e | e
          · exact absurd (a.symm.trans e) (by decide)
          · omega
theorem tkI.no {S : Stk} {bf hs : Nat → Int32} {n j : Nat} {CFu : Nat → Nat} {fu0 fu : Int32} {Z Zu : Mda} (I : sInv S) (hnd : (tw bf (S.FR S.P)) ≤ 2048) (hD : ∀ i, i < (tw bf (S.FR S.P)) → dpN S bf hs i < S.P) (hj : j < (tw bf (S.FR S.P + 2 + tw bf (S.FR S.P) * 32))) (h : tkI S bf n (dpN S bf hs) j CFu fu0 fu Z Zu) (hno : ∀ y, ¬ rsR bf (dpN S bf hs) S.FC (caX S bf (S.FR S.P + n)) CFu (clX bf (caX S bf (S.FR S.P + n)) S.CL (S.FC S.P) (S.NLp S.P)) S.P (tw bf (S.FR S.P)) ((S.FC S.P) + j) (NFs bf (caX S bf (S.FR S.P + n)) (S.FC S.P) (S.NFp S.P) j) ((caX S bf (S.FR S.P + n)) ((S.FC S.P) + j)) y) : ¬ ∃ CF1, cfOk S bf hs (S.FR S.P + n) CF1 := rsA.no hnd hD (fun i z => I.fcm (i := i + 1) (k := S.P) (by omega) (Nat.le_refl _)) h.1.1 h.1.2 hj hno
theorem tkI.all {S : Stk} {bf hs : Nat → Int32} {n j : Nat} {CFu : Nat → Nat} {fu0 fu : Int32} {Z Zu : Mda} (hj : j = (tw bf (S.FR S.P + 2 + tw bf (S.FR S.P) * 32))) (h : tkI S bf n (dpN S bf hs) j CFu fu0 fu Z Zu) : cfOk S bf hs (S.FR S.P + n) CFu := ⟨h.1.1, hj ▸ h.1.2⟩
theorem chZ.agr {f g : Nat → Int32} {DP DP' FC FC' CA CA' CF CF' CL CL' : Nat → Nat} {n P nd x NF o b : Nat} {Z : Mda} (A : Agr f g DP DP' FC FC' CA CA' CF CF' CL CL' n P nd x) (eA : CA x = CA' x) (eC : CL x = CL' x) (hc : chR f n (CA x) b) (h : chZ f DP FC CA CL P nd x NF o Z) : chZ g DP' FC' CA' CL' P nd x NF o Z := by
  have hw := hc.W
  have ea : f (CA x) = g (CA x) := A.hf _ (by have := hw.1; omega)
  have e5 : f (CA x + 5) = g (CA x + 5) := A.hf _ hw.1
  have en : nmAt f (CA x) = nmAt g (CA x) := nmAt_cg A.hf hw.1
  obtain ⟨h1, h2, h3, h4, h5, h6, h7, h8, h9⟩ := h
  unfold chZ
  rw [← eA, ← eC, ← ea]
  refine ⟨fun k => ?_, h2, fun k => ?_, h4, fun k => ?_, h6, fun k => ?_, fun k => ?_, h9⟩
  · have hl : nmAt f (CA x) < n := by
      unfold nmAt
      split
      · exact hw.1
      · rename_i z
        exact hw.2.1 (k.resolve_left z)
    rw [← en, ← A.hf _ hl]
    exact h1 k
  · have hl := hw.2.1 k
    obtain ⟨b1, b2, b3, b4⟩ := h3 k
    rw [← e5]
    refine ⟨b1, b2, b3, fun i hi => ?_⟩
    obtain ⟨z, y1, y2⟩ := b4 i hi
    exact ⟨z, (A.cn (by omega) y1).1, y2⟩
  · obtain ⟨w1, w2, w3, w4⟩ := hw.2.2.1 k
    have hP := insR.P (chR_2 k hc)
    have e1 : lnAt f (CA x) = lnAt g (CA x) := lnAt_cg A.hf hw.1 w2
    have e2 := plEnd_cg A.hf hw.1
    have e3 : tw f (lnAt f (CA x)) = tw g (lnAt g (CA x)) := by rw [← e1]; exact tw_cg A.hf w4
    obtain ⟨b1, b2, b3, b4, b5⟩ := h5 k
    rw [← e3, ← e2, ← e1]
    refine ⟨b1, b2, A.up hw.1 (fun z => by have := w1 z; omega) b3, A.up w2 (fun z => by have := w3 z; omega) b4, fun q hq h40 => ?_⟩
    have e4 : lnP f (lnAt f (CA x) + 2) q = lnP g (lnAt f (CA x) + 2) q := lnP_cg A.hf (fun r z => by have := (hP r (by omega)).1; omega)
    have e6 := (hP q hq).1
    rw [← e4, ← tw_cg A.hf (k := lnP f (lnAt f (CA x) + 2) q) (by omega)]
    exact b5 q hq h40
  · obtain ⟨z, y1, y2⟩ := h7 k
    have hl : CA x + 7 ≤ n := k.elim hw.2.2.2.1 (fun k => by have := hw.2.2.2.2 k; omega)
    have y3 := A.cn (by omega) y1
    refine ⟨z, y3.1, ?_⟩
    rw [← A.hL z y3.2, ← tw_cg A.hf (k := CA x + 1 + 4) (by omega)]
    exact y2
  · obtain ⟨z, y1, y2⟩ := h8 k
    have hl := hw.2.2.2.2 k
    have y3 := A.cn (by omega) y1
    refine ⟨z, y3.1, ?_⟩
    rw [← A.hL z y3.2, ← tw_cg A.hf (k := CA x + 7 + 4) (by omega)]
    exact y2
/-- the reference's rows hold the stock -/
def mrp (S : Stk) (Z : Mda) (G : Gr) : Prop := (∀ i, i < S.FR S.P → Z.by' i = S.f i) ∧ (∀ p, p < S.P → Z.at' p = nI (S.FR p) ∧ Z.le p = nI (S.FR (p + 1) - S.FR p)) ∧ (∀ p, p ≤ S.P → Z.da p = nI (S.FD p) ∧ Z.fc p = nI (S.FC p)) ∧ (∀ i, i < S.FD S.P → Z.ds i = nI (S.DP i)) ∧ (G.n = S.P ∧ (∀ p, p < S.P → Z.gh p = some (G.ah p)) ∧ ∀ p k, p < S.P → k < 32 → G.H p k = S.hf (p * 32 + k)) ∧ (∀ p j, p < S.P → j < S.nT p → Z.of (S.FC p + j) = nI p ∧ ∃ o, chZ S.f (S.dp p) S.FC S.CA S.CL p (S.nd p) (S.FC p + j) (NFs S.f S.CA (S.FC p) (S.NFp p) j) o Z) ∧ mrR S.f S.CA S.CF S.CL (S.FC S.P) Z.so Z.fo Z.la Z.lc Z.ns ∧ (∀ y, y < 200 → Z.fl y = nI (S.LOp S.P y)) ∧ 4 * Z.ot ≤ S.FR S.P
theorem mrR.cf {f : Nat → Int32} {CA CF CF' CL : Nat → Nat} {cc : Nat} {so fo la lc ns : Nat → Int32} (h : mrR f CA CF CL cc so fo la lc ns) (e : ∀ i, i < cc → CF i = CF' i) : mrR f CA CF' CL cc so fo la lc ns := ⟨h.1, fun x z k => by rw [← e x z]; exact h.2.1 x z k, h.2.2.1, h.2.2.2.1, fun x z => by rw [← e x z]; exact h.2.2.2.2 x z⟩
/-- the rows behind store -/
def Mda.kp (Z Zu : Mda) (gi ds1 : Nat → Int32) (P us n D9 nd cc T q : Nat) : Mda := Mda.mk (va_cpy gi Z.by' 0 us n) (upd Z.at' P (nI us)) (upd Z.le P (nI n)) (upd Z.da (P + 1) (nI (D9 + nd))) (upd (upd Z.fc P (nI (cc))) (P + 1) (nI (cc + T))) ds1 Zu.so Zu.of Zu.fo Zu.on Zu.tw Zu.nt Zu.ns Zu.oa Zu.oc Zu.la Zu.lc Zu.ov Zu.lh Zu.ta Zu.ts Zu.fh Zu.fl (va_up Z.gh P (some q)) Zu.ot
theorem chZ.kp {f : Nat → Int32} {DP FC CA CL : Nat → Nat} {P nd x NF o : Nat} {Z Zu : Mda} {gi ds1 : Nat → Int32} {P1 us n D9 nd1 cc T q : Nat} (h : chZ f DP FC CA CL P nd x NF o Zu) : chZ f DP FC CA CL P nd x NF o (Mda.kp Z Zu gi ds1 P1 us n D9 nd1 cc T q) := h
theorem outb_cg {f g : Nat → Int32} {k : Nat} (h : ∀ j, j < 8 → f j = g j) (hk : k < 32) : sh_outb f k = sh_outb g k := by
  unfold sh_outb
  rw [h (k / 4) (by omega)]
theorem mrp.ext {S S' : Stk} {bf : Nat → Int32} {n : Nat} {DPn CF1 BH1 CFu : Nat → Nat} {nd T : Nat} {hf1 : Nat → Int32} {lo1 lb1 : Nat → Int64} {la ll lc lp lu ld ad gi ds1 row : Nat → Int32} {Z Zu : Mda} {G : Gr} {q : Nat} {fu0 fu : Int32} (I : sInv S) (C : cand S bf (S.FR S.P + n) DPn CF1 nd T) (hS : S' = S.ext bf (S.FR S.P + n) DPn CF1 BH1 nd T hf1 lo1 lb1 la ll lc lp lu ld ad) (I1 : sInv S') (h : mrp S Z G) (hin : ∀ i, i < n → gi i = bf (S.FR S.P + i)) (ht : tkI S bf n DPn T CFu fu0 fu Z Zu) (hds : (∀ i, i < S.FD S.P → ds1 i = Z.ds i) ∧ ∀ i, i < nd → ds1 (S.FD S.P + i) = nI (DPn i)) (hrow : ∀ k, k < 32 → row k = sh_outb (dg bf (S.FR S.P) n) k) : mrp S' (Mda.kp Z Zu gi ds1 S.P (S.FR S.P) n (S.FD S.P) nd (S.FC S.P) T q) (G.pH q row) := by
  have hnd0 := C.hnd
  have hT0 := C.hT
  subst hnd0
  subst hT0
  obtain ⟨h1, h2, h3, h4, ⟨h5, h6, h7⟩, h8, h9, h10, h11⟩ := h
  obtain ⟨⟨t1, t2⟩, t3, t4, t5, t6, t7, t8⟩ := ht
  have hndl : (tw bf (S.FR S.P)) ≤ 2048 := Nat.le_trans C.ndl (by have := I.hP; omega)
  have hD : ∀ i, i < (tw bf (S.FR S.P)) → DPn i < S.P := fun i z => (C.dep i z).1
  have hL : ∀ i, i < S.P → S.FC (i + 1) ≤ S.FC S.P := fun i z => I.fcm (i := i + 1) (k := S.P) (by omega) (Nat.le_refl _)
  have ecf := rsA.same hndl hD hL (fun i z => (t1 i z).trans (C.cf i z).symm) t2 C.rs
  have ePP : S'.P = S.P + 1 := by rw [hS]; rfl
  have eP : S'.f = bf := by rw [hS]; rfl
  have eF : ∀ i, i ≤ S.P → S'.FR i = S.FR i := fun i z => by rw [hS]; exact upN_ne _ (by omega)
  have eF1 : S'.FR (S.P + 1) = S.FR S.P + n := by rw [hS]; exact upN_eq _ _ _
  have eD : ∀ i, i ≤ S.P → S'.FD i = S.FD i := fun i z => by rw [hS]; exact upN_ne _ (by omega)
  have eD1 : S'.FD (S.P + 1) = S.FD S.P + (tw bf (S.FR S.P)) := by rw [hS]; exact upN_eq _ _ _
  have eC : ∀ i, i ≤ S.P → S'.FC i = S.FC i := fun i z => by rw [hS]; exact upN_ne _ (by omega)
  have eC1 : S'.FC (S.P + 1) = S.FC S.P + (tw bf (S.FR S.P + 2 + tw bf (S.FR S.P) * 32)) := by rw [hS]; exact upN_eq _ _ _
  have eN : ∀ i, i ≤ S.P → S'.NFp i = S.NFp i := fun i z => by rw [hS]; exact upN_ne _ (by omega)
  have eO1 : S'.LOp (S.P + 1) = lcs bf (caX S bf (S.FR S.P + n)) CF1 (S.FC S.P) (tw bf (S.FR S.P + 2 + tw bf (S.FR S.P) * 32)) (S.LOp S.P) := by rw [hS]; exact if_pos rfl
  have eA : S'.CA = (caX S bf (S.FR S.P + n)) := by rw [hS]; rfl
  have eCF : S'.CF = CF1 := by rw [hS]; rfl
  have eCL : S'.CL = (clX bf (caX S bf (S.FR S.P + n)) S.CL (S.FC S.P) (S.NLp S.P)) := by rw [hS]; rfl
  have eDP : ∀ i, S'.DP i = if i < S.FD S.P then S.DP i else DPn (i - S.FD S.P) := fun i => by rw [hS]; rfl
  refine ⟨fun i hi => ?_, fun p hp => ?_, fun p hp => ?_, fun i hi => ?_, ⟨?_, fun p hp => ?_, fun p k hp hk => ?_⟩, fun p j hp hj => ?_, ?_, fun y hy => ?_, ?_⟩
  · rw [ePP, eF1] at hi
    rw [eP]
    show va_cpy gi Z.by' 0 (S.FR S.P) n i = bf i
    unfold va_cpy
    by_cases e : S.FR S.P ≤ i
    · rw [if_pos ⟨e, by omega⟩, hin _ (by omega)]
      congr 1
      omega
    · rw [if_neg (by omega), h1 i (by omega)]
      exact C.agr i (by omega)
  · rw [ePP] at hp
    show upd Z.at' S.P (nI (S.FR S.P)) p = nI (S'.FR p) ∧ upd Z.le S.P (nI n) p = nI (S'.FR (p + 1) - S'.FR p)
    by_cases e : p = S.P
    · subst e
      rw [upd_eq, upd_eq, eF _ (Nat.le_refl _), eF1, Nat.add_sub_cancel_left]
      exact ⟨rfl, rfl⟩
    · rw [upd_ne _ e, upd_ne _ e, eF p (by omega), eF (p + 1) (by omega)]
      exact h2 p (by omega)
  · rw [ePP] at hp
    show upd Z.da (S.P + 1) (nI (S.FD S.P + (tw bf (S.FR S.P)))) p = nI (S'.FD p) ∧ upd (upd Z.fc S.P (nI (S.FC S.P))) (S.P + 1) (nI (S.FC S.P + (tw bf (S.FR S.P + 2 + tw bf (S.FR S.P) * 32)))) p = nI (S'.FC p)
    by_cases e : p = S.P + 1
    · subst e
      rw [upd_eq, upd_eq, eD1, eC1]
      exact ⟨rfl, rfl⟩
    · rw [upd_ne _ e, upd_ne _ e, eD p (by omega), eC p (by omega)]
      by_cases e2 : p = S.P
      · subst e2
        rw [upd_eq]
        exact ⟨(h3 _ (Nat.le_refl _)).1, rfl⟩
      · rw [upd_ne _ e2]
        exact h3 p (by omega)
  · rw [ePP, eD1] at hi
    show ds1 i = nI (S'.DP i)
    rw [eDP]
    by_cases e : i < S.FD S.P
    · rw [if_pos e, hds.1 i e]; exact h4 i e
    · rw [if_neg e]
      have := hds.2 (i - S.FD S.P) (by omega)
      rw [show S.FD S.P + (i - S.FD S.P) = i by omega] at this
      exact this
  · show G.n + 1 = S'.P
    rw [ePP, h5]
  · rw [ePP] at hp
    show va_up Z.gh S.P (some q) p = some (va_up G.ah G.n q p)
    rw [h5]
    by_cases e : p = S.P
    · subst e; rw [va_up_self, va_up_self]
    · rw [va_up_ne _ _ e, va_up_ne _ _ e]; exact h6 p (by omega)
  · rw [ePP] at hp
    show va_up G.H G.n row p k = S'.hf (p * 32 + k)
    rw [h5]
    have hh := (I1.pi p (by rw [ePP]; exact hp)).hs k hk
    by_cases e : p = S.P
    · subst e
      rw [va_up_self, hrow k hk, hh, eP, eF _ (Nat.le_refl _), eF1, Nat.add_sub_cancel_left]
    · rw [va_up_ne _ _ e, h7 p k (by omega) hk, hh, (I.pi p (by omega)).hs k hk, eP, eF p (by omega), eF (p + 1) (by omega)]
      have m1 := I.frm (i := p + 1) (k := S.P) (by omega) (Nat.le_refl _)
      exact outb_cg (dg_congr (fun i z => C.agr _ (by omega))) hk
  · rw [ePP] at hp
    by_cases e : p = S.P
    · subst e
      have en1 : S'.nd S.P = (tw bf (S.FR S.P)) := by
        unfold Stk.nd
        rw [eF _ (Nat.le_refl _), eP]
      have est : S'.st S.P = (S.FR S.P + 2 + tw bf (S.FR S.P) * 32) := by
        unfold Stk.st
        rw [en1, eF _ (Nat.le_refl _)]
      have eT : S'.nT S.P = (tw bf (S.FR S.P + 2 + tw bf (S.FR S.P) * 32)) := by
        unfold Stk.nT
        rw [est, eP]
      have edp : S'.dp S.P = DPn := by
        funext k
        unfold Stk.dp
        rw [eD _ (Nat.le_refl _), eDP, if_neg (by omega), Nat.add_sub_cancel_left]
      rw [eT] at hj
      obtain ⟨z1, o, z2⟩ := t4 j hj
      rw [eC _ (Nat.le_refl _), eP, edp, eA, eCL, en1, eN _ (Nat.le_refl _)]
      have AG : Agr bf bf DPn DPn S.FC S'.FC (caX S bf (S.FR S.P + n)) (caX S bf (S.FR S.P + n)) CF1 CF1 (clX bf (caX S bf (S.FR S.P + n)) S.CL (S.FC S.P) (S.NLp S.P)) (clX bf (caX S bf (S.FR S.P + n)) S.CL (S.FC S.P) (S.NLp S.P)) (S.FR S.P + n) S.P (tw bf (S.FR S.P)) (S.FC S.P + j) := ⟨(fun _ _ => rfl), (fun _ _ => rfl), hD, (fun i z => (eC i z).symm), (fun _ _ => rfl), (fun _ _ => rfl), (fun _ _ => rfl), (fun i z => C.chw I (by omega)), (fun i z => Nat.le_trans (hL i z) (by omega))⟩
      exact ⟨z1, o, (z2.agr AG rfl rfl (C.chg hj)).kp⟩
    · have hp2 : p < S.P := by omega
      have hi := I.pi p hp2
      have m1 := I.frm (i := p + 1) (k := S.P) (by omega) (Nat.le_refl _)
      have m2 := I.fcm (i := p + 1) (k := S.P) (by omega) (Nat.le_refl _)
      have m3 := I.fdm (i := p + 1) (k := S.P) (by omega) (Nat.le_refl _)
      have l1 := I.le1 hp2
      have l2 := hi.fc
      have l3 := hi.fd
      have hg : ∀ i, i < S.FR (p + 1) → S.f i = S'.f i := fun i z => by rw [eP]; exact C.agr i (by omega)
      have en1 : S'.nd p = S.nd p := by
        unfold Stk.nd
        rw [eF p (by omega)]
        exact (tw_cg hg (by omega)).symm
      have est : S'.st p = S.st p := by
        unfold Stk.st
        rw [en1, eF p (by omega)]
      have eT : S'.nT p = S.nT p := by
        unfold Stk.nT
        rw [est]
        exact (tw_cg hg (by unfold Stk.st; omega)).symm
      have edp : ∀ k, k < S.nd p → S.dp p k = S'.dp p k := fun k z => by
        unfold Stk.dp
        rw [eD p (by omega), eDP]
        exact (if_pos (by omega : S.FD p + k < S.FD S.P)).symm
      have eA1 : ∀ x, x < S.FC S.P → S.CA x = S'.CA x := fun x z => by rw [eA]; exact (caX_lt z).symm
      have eCL1 : ∀ x, x < S.FC S.P → S.CL x = S'.CL x := fun x z => by rw [eCL]; exact (clX_lt z).symm
      have AG : ∀ j, j ≤ S.nT p → Agr S.f S'.f (S.dp p) (S'.dp p) S.FC S'.FC S.CA S'.CA S.CF S'.CF S.CL S'.CL (S.FR (p + 1)) p (S.nd p) (S.FC p + j) := fun j hj => ⟨hg, edp, (fun i z => (hi.dep i z).1), (fun i z => (eC i (by omega)).symm), (fun i z => eA1 i (by omega)), (fun i z => by rw [eCF]; exact (C.cf i (by omega)).symm), (fun i z => eCL1 i (by omega)), (fun i z => I.chw (k := p + 1) (by omega) (by omega)), (fun i z => Nat.le_trans (I.fcm (i := i + 1) (k := p) (by omega) (by omega)) (by omega))⟩
      rw [eT] at hj
      have CH : ∀ i, i < S.nT p → S.CA (S.FC p + i) = S'.CA (S.FC p + i) ∧ S.f (S.CA (S.FC p + i)) = S'.f (S.CA (S.FC p + i)) := fun i z => ⟨eA1 _ (by omega), hg _ (by have := (I.chg hp2 z).W.1; omega)⟩
      have eNF : NFs S.f S.CA (S.FC p) (S.NFp p) j = NFs S'.f S'.CA (S.FC p) (S'.NFp p) j := by
        rw [eN p (by omega)]
        exact NFs_cg (fun i z => CH i (by omega))
      obtain ⟨z1, o, z2⟩ := h8 p j hp2 hj
      rw [eC p (by omega), en1, ← eNF]
      have hx : S.FC p + j < S.FC S.P := by omega
      refine ⟨((t5.1 _ hx).2.1).trans z1, o, ((z2.step t5 hx (fun k => ?_) (fun k => ?_)).agr (AG j (by omega)) (eA1 _ hx) (eCL1 _ hx) (I.chg hp2 hj)).kp⟩
      · rw [hi.cl j hj]
        have q1 : NLs S.f S.CA (S.FC p) (S.NLp p) (j + 1) ≤ NLs S.f S.CA (S.FC p) (S.NLp p) (S.nT p) := NLs_mono _ _ _ _ (by omega)
        rw [NLs_eq k, ← hi.nl] at q1
        exact Nat.le_trans q1 (I.nlm (i := p + 1) (k := S.P) (by omega) (Nat.le_refl _))
      · have q1 : NFs S.f S.CA (S.FC p) (S.NFp p) (j + 1) ≤ NFs S.f S.CA (S.FC p) (S.NFp p) (S.nT p) := NFs_mono _ _ _ _ (by omega)
        rw [NFs_eq k, ← hi.nf] at q1
        have q2 := I.nfm (i := p + 1) (k := S.P) (by omega) (Nat.le_refl _)
        omega
  · rw [ePP, eC1, eP, eA, eCF, eCL]
    exact t3.cf ecf
  · show Zu.fl y = nI (S'.LOp S'.P y)
    rw [ePP, eO1, t7 y hy]
    congr 1
    rw [show lcs bf (caX S bf (S.FR S.P + n)) CFu (S.FC S.P) (tw bf (S.FR S.P + 2 + tw bf (S.FR S.P) * 32)) (S.LOp S.P) = lcs bf (caX S bf (S.FR S.P + n)) CF1 (S.FC S.P) (tw bf (S.FR S.P + 2 + tw bf (S.FR S.P) * 32)) (S.LOp S.P) from lcs_cg (fun i z => ⟨rfl, ecf _ (by omega), rfl, fun _ => rfl⟩)]
  · show 4 * Zu.ot ≤ S'.FR S'.P
    rw [ePP, eF1]
    have := C.kept.2.2.2.2.2
    rw [this] at t6
    omega

