/-! 79.old.lean.txt -/
/-- where the changes stand, those of the candidate among them -/
noncomputable def caX (S : Stk) (bf : Nat → Int32) (en : Nat) : Nat → Nat := fun i => if i < S.FC S.P then S.CA i else sS bf en (S.FR S.P + 2 + tw bf (S.FR S.P) * 32 + 2) (i - S.FC S.P)
/-- the candidate is a patch -/
def cand (S : Stk) (bf : Nat → Int32) (en : Nat) (DPn CF1 : Nat → Nat) (nd T : Nat) : Prop := (∀ i, i < S.FR S.P → S.f i = bf i) ∧ (nd = tw bf (S.FR S.P)) ∧ (T = tw bf (S.FR S.P + 2 + nd * 32)) ∧ (kept bf (S.FR S.P) en) ∧ (∀ k, k < nd → DPn k < S.P ∧ sq S.hf (DPn k * 32) 32 = sq bf (S.FR S.P + 2 + k * 32) 32) ∧ (∀ i, i < S.FC S.P → CF1 i = S.CF i) ∧ (rsA bf DPn S.FC (caX S bf en) CF1 (clX bf (caX S bf en) S.CL (S.FC S.P) (S.NLp S.P)) S.P nd (S.FC S.P) (S.NFp S.P) T) ∧ (∀ k, k < nd → ¬ nmXs bf nd (caX S bf en) (S.FC S.P) T (fun _ => 0) k = 0)
theorem cand.agr {S : Stk} {bf : Nat → Int32} {en : Nat} {DPn CF1 : Nat → Nat} {nd T : Nat} (h9 : cand S bf en DPn CF1 nd T) : ∀ i, i < S.FR S.P → S.f i = bf i := h9.1
theorem cand.hnd {S : Stk} {bf : Nat → Int32} {en : Nat} {DPn CF1 : Nat → Nat} {nd T : Nat} (h9 : cand S bf en DPn CF1 nd T) : nd = tw bf (S.FR S.P) := h9.2.1
theorem cand.hT {S : Stk} {bf : Nat → Int32} {en : Nat} {DPn CF1 : Nat → Nat} {nd T : Nat} (h9 : cand S bf en DPn CF1 nd T) : T = tw bf (S.FR S.P + 2 + nd * 32) := h9.2.2.1
theorem cand.kept {S : Stk} {bf : Nat → Int32} {en : Nat} {DPn CF1 : Nat → Nat} {nd T : Nat} (h9 : cand S bf en DPn CF1 nd T) : kept bf (S.FR S.P) en := h9.2.2.2.1
theorem cand.dep {S : Stk} {bf : Nat → Int32} {en : Nat} {DPn CF1 : Nat → Nat} {nd T : Nat} (h9 : cand S bf en DPn CF1 nd T) : ∀ k, k < nd → DPn k < S.P ∧ sq S.hf (DPn k * 32) 32 = sq bf (S.FR S.P + 2 + k * 32) 32 := h9.2.2.2.2.1
theorem cand.cf {S : Stk} {bf : Nat → Int32} {en : Nat} {DPn CF1 : Nat → Nat} {nd T : Nat} (h9 : cand S bf en DPn CF1 nd T) : ∀ i, i < S.FC S.P → CF1 i = S.CF i := h9.2.2.2.2.2.1
theorem cand.rs {S : Stk} {bf : Nat → Int32} {en : Nat} {DPn CF1 : Nat → Nat} {nd T : Nat} (h9 : cand S bf en DPn CF1 nd T) : rsA bf DPn S.FC (caX S bf en) CF1 (clX bf (caX S bf en) S.CL (S.FC S.P) (S.NLp S.P)) S.P nd (S.FC S.P) (S.NFp S.P) T := h9.2.2.2.2.2.2.1
theorem cand.nm {S : Stk} {bf : Nat → Int32} {en : Nat} {DPn CF1 : Nat → Nat} {nd T : Nat} (h9 : cand S bf en DPn CF1 nd T) : ∀ k, k < nd → ¬ nmXs bf nd (caX S bf en) (S.FC S.P) T (fun _ => 0) k = 0 := h9.2.2.2.2.2.2.2
/-- the stock with the candidate kept -/
noncomputable def Stk.ext (S : Stk) (bf : Nat → Int32) (en : Nat) (DPn CF1 BH1 : Nat → Nat) (nd T : Nat) (hf1 : Nat → Int32) (lo1 lb1 : Nat → Int64) (la ll lc lp lu ld ad : Nat → Int32) : Stk := Stk.mk (S.P + 1) (upN S.FR (S.P + 1) en) (upN S.FD (S.P + 1) (S.FD S.P + nd)) (upN S.FC (S.P + 1) (S.FC S.P + T)) (upN S.NFp (S.P + 1) (NFs bf (caX S bf en) (S.FC S.P) (S.NFp S.P) T)) (upN S.NLp (S.P + 1) (NLs bf (caX S bf en) (S.FC S.P) (S.NLp S.P) T)) (fun i => if i = S.P + 1 then lcs bf (caX S bf en) CF1 (S.FC S.P) T (S.LOp S.P) else S.LOp i) (fun i => if i < S.FD S.P then S.DP i else DPn (i - S.FD S.P)) (caX S bf en) (CF1) (clX bf (caX S bf en) S.CL (S.FC S.P) (S.NLp S.P)) (BH1) (bf) (hf1) (lo1) (lb1) (la) (ll) (lc) (lp) (lu) (ld) (ad)
theorem caX_lt {S : Stk} {bf : Nat → Int32} {en i : Nat} (h : i < S.FC S.P) : caX S bf en i = S.CA i := if_pos h
theorem caX_ge {S : Stk} {bf : Nat → Int32} {en j : Nat} : caX S bf en (S.FC S.P + j) = sS bf en (S.FR S.P + 2 + tw bf (S.FR S.P) * 32 + 2) j := by
  unfold caX
  rw [if_neg (by omega), Nat.add_sub_cancel_left]
theorem clX_lt {f : Nat → Int32} {CA CL : Nat → Nat} {c0 NL0 i : Nat} (h : i < c0) : clX f CA CL c0 NL0 i = CL i := if_pos h
/-- what a candidate brings, beyond being a patch, so that the stock with it is a stock -/
def more (S : Stk) (bf : Nat → Int32) (en : Nat) (DPn CF1 BH1 : Nat → Nat) (nd T : Nat) (hf1 : Nat → Int32) (lo1 lb1 : Nat → Int64) (la ll lc lp lu ld ad : Nat → Int32) : Prop := (S.P < 500) ∧ (en ≤ 200000) ∧ (NFs bf (caX S bf en) (S.FC S.P) (S.NFp S.P) T ≤ 200) ∧ (NLs bf (caX S bf en) (S.FC S.P) (S.NLp S.P) T ≤ 4000) ∧ (∀ y, lcs bf (caX S bf en) CF1 (S.FC S.P) T (S.LOp S.P) y ≤ 400) ∧ (∀ i, i < S.P + 1 → BH1 i < S.P + 1) ∧ (hs_up hf1 BH1 (S.P + 1)) ∧ (∀ p, p < S.P + 1 → ∃ i, i < S.P + 1 ∧ BH1 i = p) ∧ (∀ i, i < S.P * 32 → hf1 i = S.hf i) ∧ (∀ k, k < 32 → hf1 (S.P * 32 + k) = sh_outb (dg bf (S.FR S.P) (en - S.FR S.P)) k) ∧ (lnO S.lo lo1 DPn S.P nd) ∧ (lb1 = lbX S.lb lo1 S.P S.P) ∧ (∀ j, j < T → bf (caX S bf en (S.FC S.P + j)) = 2 → liR bf DPn S.FC (clX bf (caX S bf en) S.CL (S.FC S.P) (S.NLp S.P)) S.P nd (S.FC S.P + j) (caX S bf en (S.FC S.P + j)) (NLs bf (caX S bf en) (S.FC S.P) (S.NLp S.P) j) la ll lc lp lu ld) ∧ (∀ q, q < S.NLp S.P → la q = S.la q ∧ ll q = S.ll q ∧ lc q = S.lc q ∧ lp q = S.lp q ∧ lu q = S.lu q ∧ ld q = S.ld q) ∧ (∀ j, j < T → bf (caX S bf en (S.FC S.P + j)) = 0 → ad (NFs bf (caX S bf en) (S.FC S.P) (S.NFp S.P) j) = nI (S.FC S.P + j)) ∧ (∀ i, i < S.NFp S.P → ad i = S.ad i)
theorem more.hP {S : Stk} {bf : Nat → Int32} {en : Nat} {DPn CF1 BH1 : Nat → Nat} {nd T : Nat} {hf1 : Nat → Int32} {lo1 lb1 : Nat → Int64} {la ll lc lp lu ld ad : Nat → Int32} (h9 : more S bf en DPn CF1 BH1 nd T hf1 lo1 lb1 la ll lc lp lu ld ad) : S.P < 500 := h9.1
theorem more.hen {S : Stk} {bf : Nat → Int32} {en : Nat} {DPn CF1 BH1 : Nat → Nat} {nd T : Nat} {hf1 : Nat → Int32} {lo1 lb1 : Nat → Int64} {la ll lc lp lu ld ad : Nat → Int32} (h9 : more S bf en DPn CF1 BH1 nd T hf1 lo1 lb1 la ll lc lp lu ld ad) : en ≤ 200000 := h9.2.1
theorem more.nf {S : Stk} {bf : Nat → Int32} {en : Nat} {DPn CF1 BH1 : Nat → Nat} {nd T : Nat} {hf1 : Nat → Int32} {lo1 lb1 : Nat → Int64} {la ll lc lp lu ld ad : Nat → Int32} (h9 : more S bf en DPn CF1 BH1 nd T hf1 lo1 lb1 la ll lc lp lu ld ad) : NFs bf (caX S bf en) (S.FC S.P) (S.NFp S.P) T ≤ 200 := h9.2.2.1
theorem more.nl {S : Stk} {bf : Nat → Int32} {en : Nat} {DPn CF1 BH1 : Nat → Nat} {nd T : Nat} {hf1 : Nat → Int32} {lo1 lb1 : Nat → Int64} {la ll lc lp lu ld ad : Nat → Int32} (h9 : more S bf en DPn CF1 BH1 nd T hf1 lo1 lb1 la ll lc lp lu ld ad) : NLs bf (caX S bf en) (S.FC S.P) (S.NLp S.P) T ≤ 4000 := h9.2.2.2.1
theorem more.lo {S : Stk} {bf : Nat → Int32} {en : Nat} {DPn CF1 BH1 : Nat → Nat} {nd T : Nat} {hf1 : Nat → Int32} {lo1 lb1 : Nat → Int64} {la ll lc lp lu ld ad : Nat → Int32} (h9 : more S bf en DPn CF1 BH1 nd T hf1 lo1 lb1 la ll lc lp lu ld ad) : ∀ y, lcs bf (caX S bf en) CF1 (S.FC S.P) T (S.LOp S.P) y ≤ 400 := h9.2.2.2.2.1
theorem more.bh {S : Stk} {bf : Nat → Int32} {en : Nat} {DPn CF1 BH1 : Nat → Nat} {nd T : Nat} {hf1 : Nat → Int32} {lo1 lb1 : Nat → Int64} {la ll lc lp lu ld ad : Nat → Int32} (h9 : more S bf en DPn CF1 BH1 nd T hf1 lo1 lb1 la ll lc lp lu ld ad) : ∀ i, i < S.P + 1 → BH1 i < S.P + 1 := h9.2.2.2.2.2.1
theorem more.up {S : Stk} {bf : Nat → Int32} {en : Nat} {DPn CF1 BH1 : Nat → Nat} {nd T : Nat} {hf1 : Nat → Int32} {lo1 lb1 : Nat → Int64} {la ll lc lp lu ld ad : Nat → Int32} (h9 : more S bf en DPn CF1 BH1 nd T hf1 lo1 lb1 la ll lc lp lu ld ad) : hs_up hf1 BH1 (S.P + 1) := h9.2.2.2.2.2.2.1
theorem more.sur {S : Stk} {bf : Nat → Int32} {en : Nat} {DPn CF1 BH1 : Nat → Nat} {nd T : Nat} {hf1 : Nat → Int32} {lo1 lb1 : Nat → Int64} {la ll lc lp lu ld ad : Nat → Int32} (h9 : more S bf en DPn CF1 BH1 nd T hf1 lo1 lb1 la ll lc lp lu ld ad) : ∀ p, p < S.P + 1 → ∃ i, i < S.P + 1 ∧ BH1 i = p := h9.2.2.2.2.2.2.2.1
theorem more.hf {S : Stk} {bf : Nat → Int32} {en : Nat} {DPn CF1 BH1 : Nat → Nat} {nd T : Nat} {hf1 : Nat → Int32} {lo1 lb1 : Nat → Int64} {la ll lc lp lu ld ad : Nat → Int32} (h9 : more S bf en DPn CF1 BH1 nd T hf1 lo1 lb1 la ll lc lp lu ld ad) : ∀ i, i < S.P * 32 → hf1 i = S.hf i := h9.2.2.2.2.2.2.2.2.1
theorem more.hs {S : Stk} {bf : Nat → Int32} {en : Nat} {DPn CF1 BH1 : Nat → Nat} {nd T : Nat} {hf1 : Nat → Int32} {lo1 lb1 : Nat → Int64} {la ll lc lp lu ld ad : Nat → Int32} (h9 : more S bf en DPn CF1 BH1 nd T hf1 lo1 lb1 la ll lc lp lu ld ad) : ∀ k, k < 32 → hf1 (S.P * 32 + k) = sh_outb (dg bf (S.FR S.P) (en - S.FR S.P)) k := h9.2.2.2.2.2.2.2.2.2.1
theorem more.ln {S : Stk} {bf : Nat → Int32} {en : Nat} {DPn CF1 BH1 : Nat → Nat} {nd T : Nat} {hf1 : Nat → Int32} {lo1 lb1 : Nat → Int64} {la ll lc lp lu ld ad : Nat → Int32} (h9 : more S bf en DPn CF1 BH1 nd T hf1 lo1 lb1 la ll lc lp lu ld ad) : lnO S.lo lo1 DPn S.P nd := h9.2.2.2.2.2.2.2.2.2.2.1
theorem more.lb {S : Stk} {bf : Nat → Int32} {en : Nat} {DPn CF1 BH1 : Nat → Nat} {nd T : Nat} {hf1 : Nat → Int32} {lo1 lb1 : Nat → Int64} {la ll lc lp lu ld ad : Nat → Int32} (h9 : more S bf en DPn CF1 BH1 nd T hf1 lo1 lb1 la ll lc lp lu ld ad) : lb1 = lbX S.lb lo1 S.P S.P := h9.2.2.2.2.2.2.2.2.2.2.2.1
theorem more.li {S : Stk} {bf : Nat → Int32} {en : Nat} {DPn CF1 BH1 : Nat → Nat} {nd T : Nat} {hf1 : Nat → Int32} {lo1 lb1 : Nat → Int64} {la ll lc lp lu ld ad : Nat → Int32} (h9 : more S bf en DPn CF1 BH1 nd T hf1 lo1 lb1 la ll lc lp lu ld ad) : ∀ j, j < T → bf (caX S bf en (S.FC S.P + j)) = 2 → liR bf DPn S.FC (clX bf (caX S bf en) S.CL (S.FC S.P) (S.NLp S.P)) S.P nd (S.FC S.P + j) (caX S bf en (S.FC S.P + j)) (NLs bf (caX S bf en) (S.FC S.P) (S.NLp S.P) j) la ll lc lp lu ld := h9.2.2.2.2.2.2.2.2.2.2.2.2.1
theorem more.lis {S : Stk} {bf : Nat → Int32} {en : Nat} {DPn CF1 BH1 : Nat → Nat} {nd T : Nat} {hf1 : Nat → Int32} {lo1 lb1 : Nat → Int64} {la ll lc lp lu ld ad : Nat → Int32} (h9 : more S bf en DPn CF1 BH1 nd T hf1 lo1 lb1 la ll lc lp lu ld ad) : ∀ q, q < S.NLp S.P → la q = S.la q ∧ ll q = S.ll q ∧ lc q = S.lc q ∧ lp q = S.lp q ∧ lu q = S.lu q ∧ ld q = S.ld q := h9.2.2.2.2.2.2.2.2.2.2.2.2.2.1
theorem more.gad {S : Stk} {bf : Nat → Int32} {en : Nat} {DPn CF1 BH1 : Nat → Nat} {nd T : Nat} {hf1 : Nat → Int32} {lo1 lb1 : Nat → Int64} {la ll lc lp lu ld ad : Nat → Int32} (h9 : more S bf en DPn CF1 BH1 nd T hf1 lo1 lb1 la ll lc lp lu ld ad) : ∀ j, j < T → bf (caX S bf en (S.FC S.P + j)) = 0 → ad (NFs bf (caX S bf en) (S.FC S.P) (S.NFp S.P) j) = nI (S.FC S.P + j) := h9.2.2.2.2.2.2.2.2.2.2.2.2.2.2.1
theorem more.ads {S : Stk} {bf : Nat → Int32} {en : Nat} {DPn CF1 BH1 : Nat → Nat} {nd T : Nat} {hf1 : Nat → Int32} {lo1 lb1 : Nat → Int64} {la ll lc lp lu ld ad : Nat → Int32} (h9 : more S bf en DPn CF1 BH1 nd T hf1 lo1 lb1 la ll lc lp lu ld ad) : ∀ i, i < S.NFp S.P → ad i = S.ad i := h9.2.2.2.2.2.2.2.2.2.2.2.2.2.2.2
section
variable {S : Stk} {bf : Nat → Int32} {en : Nat} {DPn CF1 BH1 : Nat → Nat} {nd T : Nat} {hf1 : Nat → Int32} {lo1 lb1 : Nat → Int64} {la ll lc lp lu ld ad : Nat → Int32}
/-- the patches that were there stay -/
theorem sInv.old (I : sInv S) (C : cand S bf en DPn CF1 nd T) (M : more S bf en DPn CF1 BH1 nd T hf1 lo1 lb1 la ll lc lp lu ld ad) {p : Nat} (hp : p < S.P) : pInv (S.ext bf en DPn CF1 BH1 nd T hf1 lo1 lb1 la ll lc lp lu ld ad) p := by
  have h := I.pi p hp
  generalize hS : S.ext bf en DPn CF1 BH1 nd T hf1 lo1 lb1 la ll lc lp lu ld ad = S'
  have eP : S'.f = bf := by rw [← hS]; rfl
  have eF : ∀ i, i ≤ S.P → S'.FR i = S.FR i := fun i z => by rw [← hS]; exact upN_ne _ (by omega)
  have eD : ∀ i, i ≤ S.P → S'.FD i = S.FD i := fun i z => by rw [← hS]; exact upN_ne _ (by omega)
  have eC : ∀ i, i ≤ S.P → S'.FC i = S.FC i := fun i z => by rw [← hS]; exact upN_ne _ (by omega)
  have eN : ∀ i, i ≤ S.P → S'.NFp i = S.NFp i := fun i z => by rw [← hS]; exact upN_ne _ (by omega)
  have eL : ∀ i, i ≤ S.P → S'.NLp i = S.NLp i := fun i z => by rw [← hS]; exact upN_ne _ (by omega)
  have eO : ∀ i, i ≤ S.P → S'.LOp i = S.LOp i := fun i z => by rw [← hS]; exact if_neg (by omega)
  have eA : S'.CA = caX S bf en := by rw [← hS]; rfl
  have eCF : S'.CF = CF1 := by rw [← hS]; rfl
  have eCL : S'.CL = clX bf (caX S bf en) S.CL (S.FC S.P) (S.NLp S.P) := by rw [← hS]; rfl
  have m1 := I.frm (i := p + 1) (k := S.P) (by omega) (Nat.le_refl _)
  have m2 := I.fcm (i := p + 1) (k := S.P) (by omega) (Nat.le_refl _)
  have m3 := I.fdm (i := p + 1) (k := S.P) (by omega) (Nat.le_refl _)
  have l1 := I.le1 hp
  have l2 := h.fc
  have l3 := h.fd
  have kc : chain S.f (S.FR (p + 1)) (S.st p + 2) (S.nT p) := h.kept.2.2.2.2.1
  have hg : ∀ i, i < S.FR (p + 1) → S.f i = S'.f i := fun i z => by rw [eP]; exact C.agr i (by omega)
  have en1 : S'.nd p = S.nd p := by
    unfold Stk.nd
    rw [eF p (by omega)]
    exact (tw_cg hg (by omega)).symm
  have est : S'.st p = S.st p := by
    unfold Stk.st
    rw [en1, eF p (by omega)]
  have eT : S'.nT p = S.nT p := by
    unfold Stk.nT
    rw [est]
    exact (tw_cg hg (by unfold Stk.st; omega)).symm
  have edp : ∀ k, k < S.nd p → S.dp p k = S'.dp p k := fun k z => by
    unfold Stk.dp
    rw [eD p (by omega), ← hS]
    exact (if_pos (by omega : S.FD p + k < S.FD S.P)).symm
  have eA1 : ∀ x, x < S.FC S.P → S.CA x = S'.CA x := fun x z => by rw [eA]; exact (caX_lt z).symm
  have AG : ∀ j, j ≤ S.nT p → Agr S.f S'.f (S.dp p) (S'.dp p) S.FC S'.FC S.CA S'.CA S.CF S'.CF S.CL S'.CL (S.FR (p + 1)) p (S.nd p) (S.FC p + j) := fun j hj => ⟨hg, edp, (fun i z => (h.dep i z).1), (fun i z => (eC i (by omega)).symm), (fun i z => eA1 i (by omega)), (fun i z => by rw [eCF]; exact (C.cf i (by omega)).symm), (fun i z => by rw [eCL]; exact (clX_lt (by omega)).symm), (fun i z => I.chw (k := p + 1) (by omega) (by omega)), (fun i z => Nat.le_trans (I.fcm (i := i + 1) (k := p) (by omega) (by omega)) (by omega))⟩
  have CH : ∀ j, j < S.nT p → S.CA (S.FC p + j) = S'.CA (S.FC p + j) ∧ chR S.f (S.FR (p + 1)) (S.CA (S.FC p + j)) (sS S.f (S.FR (p + 1)) (S.st p + 2) (j + 1)) ∧ S.f (S.CA (S.FC p + j)) = S'.f (S.CA (S.FC p + j)) ∧ (S.f (S.CA (S.FC p + j)) = 2 → tw S.f (lnAt S.f (S.CA (S.FC p + j))) = tw S'.f (lnAt S'.f (S.CA (S.FC p + j)))) := fun j hj => by
    have c := I.chg hp hj
    have w := c.W
    refine ⟨eA1 _ (by omega), c, hg _ (by have := w.1; omega), fun e => ?_⟩
    obtain ⟨w1, w2, w3, w4⟩ := w.2.2.1 e
    rw [← lnAt_cg hg w.1 w2]
    exact tw_cg hg w4
  have eNF : ∀ j, j ≤ S.nT p → NFs S.f S.CA (S.FC p) (S.NFp p) j = NFs S'.f S'.CA (S'.FC p) (S'.NFp p) j := fun j hj => by
    rw [eC p (by omega), eN p (by omega)]
    exact NFs_cg (fun i z => ⟨(CH i (by omega)).1, (CH i (by omega)).2.2.1⟩)
  have eNL : ∀ j, j ≤ S.nT p → NLs S.f S.CA (S.FC p) (S.NLp p) j = NLs S'.f S'.CA (S'.FC p) (S'.NLp p) j := fun j hj => by
    rw [eC p (by omega), eL p (by omega)]
    exact NLs_cg (fun i z => ⟨(CH i (by omega)).1, (CH i (by omega)).2.2⟩)
  refine ⟨?_, ?_, ?_, ?_, ?_, ?_, ?_, ?_, ?_, ?_, ?_, ?_, ?_, ?_, ?_⟩
  · rw [eF p (by omega), eF (p + 1) (by omega)]; exact h.kept.cg hg
  · rw [eD p (by omega), eD (p + 1) (by omega), en1]; exact l3
  · rw [eC p (by omega), eC (p + 1) (by omega), eT]; exact l2
  · intro j hj
    rw [eT] at hj
    rw [eC p (by omega), eF (p + 1) (by omega), est, ← (CH j hj).1, ← sS_cg hg kc j (by omega)]
    exact h.ca j hj
  · intro k hk
    rw [en1] at hk
    obtain ⟨d1, d2⟩ := h.dep k hk
    rw [← edp k hk, eF p (by omega)]
    refine ⟨d1, ?_⟩
    rw [← sq_congr (f := S.f) (g := S'.f) 32 (S.FR p + 2 + k * 32) (S.FR p + 2 + k * 32) (fun i z => hg _ (by omega)), ← d2]
    rw [← hS]
    exact sq_congr 32 _ _ (fun i z => M.hf _ (by omega))
  · intro j hj
    rw [eT] at hj
    have r := (AG j (by omega)).rs (CH j hj).2.1.W (Nat.le_trans (I.ndl hp) (by have := I.hP; omega)) (h.rs j hj)
    rw [← eNF j (by omega), eC p (by omega), en1, ← (CH j hj).1, show S'.CF (S.FC p + j) = S.CF (S.FC p + j) by rw [eCF]; exact C.cf _ (by omega)]
    exact r
  · intro j hj
    rw [eT] at hj
    rw [← eNL j (by omega), eC p (by omega), eCL, clX_lt (by omega)]
    exact h.cl j hj
  · rw [eN (p + 1) (by omega), eT, ← eNF _ (Nat.le_refl _)]; exact h.nf
  · rw [eL (p + 1) (by omega), eT, ← eNL _ (Nat.le_refl _)]; exact h.nl
  · rw [eO (p + 1) (by omega), eO p (by omega), eT, eC p (by omega), h.lo]
    exact lcs_cg (fun i z => ⟨(CH i z).1, by rw [eCF]; exact (C.cf _ (by omega)).symm, (CH i z).2.2⟩)
  · intro j hj e
    rw [eT] at hj
    rw [eC p (by omega), ← (CH j hj).1] at e
    rw [eC p (by omega), en1, ← (CH j hj).1, show S'.CL (S.FC p + j) = S.CL (S.FC p + j) by rw [eCL]; exact clX_lt (by omega)]
    rw [← (CH j hj).2.2.1] at e
    have r := (h.li j hj e).cg (AG j (by omega)) e (CH j hj).2.1
    rw [← hS] at r ⊢
    refine r.same M.lis ?_
    have q1 := I.nlm (i := p + 1) (k := S.P) (by omega) (Nat.le_refl _)
    have q2 := NLs_mono S.f S.CA (S.FC p) (S.NLp p) (i := j + 1) (j := S.nT p) (by omega)
    rw [NLs_eq e, ← h.nl, ← h.cl j hj, (CH j hj).2.2.2 e, ← hS] at q2
    exact Nat.le_trans q2 q1
  · intro j hj e
    rw [eT] at hj
    rw [eC p (by omega), ← (CH j hj).1, ← (CH j hj).2.2.1] at e
    rw [← eNF j (by omega), eC p (by omega)]
    have q1 := I.nfm (i := p + 1) (k := S.P) (by omega) (Nat.le_refl _)
    have q2 := NFs_mono S.f S.CA (S.FC p) (S.NFp p) (i := j + 1) (j := S.nT p) (by omega)
    rw [NFs_eq e, ← h.nf] at q2
    rw [← hS]
    exact (M.ads _ (by omega)).trans (h.ad j hj e)
  · intro k hk
    rw [en1] at hk
    rw [en1, eT, eC p (by omega), ← nmXs_cg hg (fun i z => ⟨(CH i z).1, (CH i z).2.1.W, (CH i z).2.1.kd⟩)]
    exact h.nm k hk
  · intro k hk
    rw [eF p (by omega), eF (p + 1) (by omega)]
    have : S'.hf (p * 32 + k) = S.hf (p * 32 + k) := by rw [← hS]; exact M.hf _ (by omega)
    rw [this, h.hs k hk]
    exact sh_outb_congr (dg_congr (fun i z => hg _ (by omega))) hk
  · intro n hn
    have q : ∀ r, r < S.P → btr S'.lo (r * 8) n = btr S.lo (r * 8) n := fun r z => by
      rw [← hS]
      unfold btr
      rw [show (S.ext bf en DPn CF1 BH1 nd T hf1 lo1 lb1 la ll lc lp lu ld ad).lo = lo1 from rfl, M.ln.1 _ (Or.inl (by omega))]
    rw [q p hp, h.ln n hn, en1]
    constructor
    · rintro ⟨k, z1, z2⟩
      have z3 := (h.dep k z1).1
      refine ⟨k, z1, ?_⟩
      rw [← edp k z1, q _ (by omega)]
      exact z2
    · rintro ⟨k, z1, z2⟩
      have z3 := (h.dep k z1).1
      refine ⟨k, z1, ?_⟩
      rw [← edp k z1, q _ (by omega)] at z2
      exact z2
end

