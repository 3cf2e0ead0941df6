/-! 81.rep.lean.txt -/
/-- what the arrays of the stock and of the intake hold -/
def StkA : Type := (Nat → Int32) × (Nat → Int32) × (Nat → Int32) × (Nat → Int32) × (Nat → Int32) × (Nat → Int32) × (Nat → Int32) × (Nat → Int64) × (Nat → Int64) × (Nat → Int32) × (Nat → Int32) × (Nat → Int32) × (Nat → Int32) × (Nat → Int32) × (Nat → Int32) × (Nat → Int32) × (Nat → Int32) × (Nat → Int32) × (Nat → Int32) × (Nat → Int32) × (Nat → Int32) × (Nat → Int32) × (Nat → Int32) × (Nat → Int32) × (Nat → Int32) × (Nat → Int32) × Value × Value × Value × Value × Nat × Nat × Nat
def StkA.by' (s9 : StkA) : Nat → Int32 := s9.1
def StkA.fr (s9 : StkA) : Nat → Int32 := s9.2.1
def StkA.fd (s9 : StkA) : Nat → Int32 := s9.2.2.1
def StkA.fc (s9 : StkA) : Nat → Int32 := s9.2.2.2.1
def StkA.dp (s9 : StkA) : Nat → Int32 := s9.2.2.2.2.1
def StkA.hs (s9 : StkA) : Nat → Int32 := s9.2.2.2.2.2.1
def StkA.bh (s9 : StkA) : Nat → Int32 := s9.2.2.2.2.2.2.1
def StkA.lo (s9 : StkA) : Nat → Int64 := s9.2.2.2.2.2.2.2.1
def StkA.lb (s9 : StkA) : Nat → Int64 := s9.2.2.2.2.2.2.2.2.1
def StkA.ca (s9 : StkA) : Nat → Int32 := s9.2.2.2.2.2.2.2.2.2.1
def StkA.cp (s9 : StkA) : Nat → Int32 := s9.2.2.2.2.2.2.2.2.2.2.1
def StkA.cf (s9 : StkA) : Nat → Int32 := s9.2.2.2.2.2.2.2.2.2.2.2.1
def StkA.fl (s9 : StkA) : Nat → Int32 := s9.2.2.2.2.2.2.2.2.2.2.2.2.1
def StkA.ad (s9 : StkA) : Nat → Int32 := s9.2.2.2.2.2.2.2.2.2.2.2.2.2.1
def StkA.la (s9 : StkA) : Nat → Int32 := s9.2.2.2.2.2.2.2.2.2.2.2.2.2.2.1
def StkA.ll (s9 : StkA) : Nat → Int32 := s9.2.2.2.2.2.2.2.2.2.2.2.2.2.2.2.1
def StkA.lc (s9 : StkA) : Nat → Int32 := s9.2.2.2.2.2.2.2.2.2.2.2.2.2.2.2.2.1
def StkA.lp (s9 : StkA) : Nat → Int32 := s9.2.2.2.2.2.2.2.2.2.2.2.2.2.2.2.2.2.1
def StkA.lu (s9 : StkA) : Nat → Int32 := s9.2.2.2.2.2.2.2.2.2.2.2.2.2.2.2.2.2.2.1
def StkA.ld (s9 : StkA) : Nat → Int32 := s9.2.2.2.2.2.2.2.2.2.2.2.2.2.2.2.2.2.2.2.1
def StkA.of (s9 : StkA) : Nat → Int32 := s9.2.2.2.2.2.2.2.2.2.2.2.2.2.2.2.2.2.2.2.2.1
def StkA.na (s9 : StkA) : Nat → Int32 := s9.2.2.2.2.2.2.2.2.2.2.2.2.2.2.2.2.2.2.2.2.2.1
def StkA.lf (s9 : StkA) : Nat → Int32 := s9.2.2.2.2.2.2.2.2.2.2.2.2.2.2.2.2.2.2.2.2.2.2.1
def StkA.sm (s9 : StkA) : Nat → Int32 := s9.2.2.2.2.2.2.2.2.2.2.2.2.2.2.2.2.2.2.2.2.2.2.2.1
def StkA.wd (s9 : StkA) : Nat → Int32 := s9.2.2.2.2.2.2.2.2.2.2.2.2.2.2.2.2.2.2.2.2.2.2.2.2.1
def StkA.bl (s9 : StkA) : Nat → Int32 := s9.2.2.2.2.2.2.2.2.2.2.2.2.2.2.2.2.2.2.2.2.2.2.2.2.2.1
def StkA.nf (s9 : StkA) : Value := s9.2.2.2.2.2.2.2.2.2.2.2.2.2.2.2.2.2.2.2.2.2.2.2.2.2.2.1
def StkA.nl (s9 : StkA) : Value := s9.2.2.2.2.2.2.2.2.2.2.2.2.2.2.2.2.2.2.2.2.2.2.2.2.2.2.2.1
def StkA.fi (s9 : StkA) : Value := s9.2.2.2.2.2.2.2.2.2.2.2.2.2.2.2.2.2.2.2.2.2.2.2.2.2.2.2.2.1
def StkA.tk (s9 : StkA) : Value := s9.2.2.2.2.2.2.2.2.2.2.2.2.2.2.2.2.2.2.2.2.2.2.2.2.2.2.2.2.2.1
def StkA.pt (s9 : StkA) : Nat := s9.2.2.2.2.2.2.2.2.2.2.2.2.2.2.2.2.2.2.2.2.2.2.2.2.2.2.2.2.2.2.1
def StkA.nL (s9 : StkA) : Nat := s9.2.2.2.2.2.2.2.2.2.2.2.2.2.2.2.2.2.2.2.2.2.2.2.2.2.2.2.2.2.2.2.1
def StkA.nF (s9 : StkA) : Nat := s9.2.2.2.2.2.2.2.2.2.2.2.2.2.2.2.2.2.2.2.2.2.2.2.2.2.2.2.2.2.2.2.2
def StkA.mk (by' : Nat → Int32) (fr : Nat → Int32) (fd : Nat → Int32) (fc : Nat → Int32) (dp : Nat → Int32) (hs : Nat → Int32) (bh : Nat → Int32) (lo : Nat → Int64) (lb : Nat → Int64) (ca : Nat → Int32) (cp : Nat → Int32) (cf : Nat → Int32) (fl : Nat → Int32) (ad : Nat → Int32) (la : Nat → Int32) (ll : Nat → Int32) (lc : Nat → Int32) (lp : Nat → Int32) (lu : Nat → Int32) (ld : Nat → Int32) (of : Nat → Int32) (na : Nat → Int32) (lf : Nat → Int32) (sm : Nat → Int32) (wd : Nat → Int32) (bl : Nat → Int32) (nf : Value) (nl : Value) (fi : Value) (tk : Value) (pt : Nat) (nL : Nat) (nF : Nat) : StkA := (by', fr, fd, fc, dp, hs, bh, lo, lb, ca, cp, cf, fl, ad, la, ll, lc, lp, lu, ld, of, na, lf, sm, wd, bl, nf, nl, fi, tk, pt, nL, nF)
/-- the arrays hold the stock -/
def rep (S : Stk) (Z : StkA) : Prop := (∀ i, i ≤ S.P → Z.fr i = nI (S.FR i)) ∧ (∀ i, i ≤ S.P → Z.fd i = nI (S.FD i)) ∧ (∀ i, i ≤ S.P → Z.fc i = nI (S.FC i)) ∧ (∀ i, i < S.FD S.P → Z.dp i = nI (S.DP i)) ∧ (∀ i, i < S.FC S.P → Z.ca i = nI (S.CA i)) ∧ (∀ i, i < S.FC S.P → Z.cf i = nI (S.CF i)) ∧ (∀ i, i < S.FC S.P → S.f (S.CA i) = 2 → Z.fl i = nI (S.CL i)) ∧ (∀ p j, p < S.P → j < S.nT p → Z.cp (S.FC p + j) = nI p) ∧ (∀ i, i < S.P * 32 → Z.hs i = S.hf i) ∧ (∀ i, i < S.P → Z.bh i = nI (S.BH i)) ∧ (Z.lo = S.lo) ∧ (Z.lb = S.lb) ∧ (Z.la = S.la) ∧ (Z.ll = S.ll) ∧ (Z.lc = S.lc) ∧ (Z.lp = S.lp) ∧ (Z.lu = S.lu) ∧ (Z.ld = S.ld) ∧ (Z.ad = S.ad) ∧ (∀ y, y < 200 → Z.of y = nI (S.LOp S.P y)) ∧ (∀ i, i < S.FR S.P → S.f i = Z.by' i) ∧ (Z.pt = S.P) ∧ (Z.nL = S.NLp S.P) ∧ (Z.nF = S.NFp S.P)
theorem rep.fr {S : Stk} {Z : StkA} (h9 : rep S Z) : ∀ i, i ≤ S.P → Z.fr i = nI (S.FR i) := h9.1
theorem rep.fd {S : Stk} {Z : StkA} (h9 : rep S Z) : ∀ i, i ≤ S.P → Z.fd i = nI (S.FD i) := h9.2.1
theorem rep.fc {S : Stk} {Z : StkA} (h9 : rep S Z) : ∀ i, i ≤ S.P → Z.fc i = nI (S.FC i) := h9.2.2.1
theorem rep.dp {S : Stk} {Z : StkA} (h9 : rep S Z) : ∀ i, i < S.FD S.P → Z.dp i = nI (S.DP i) := h9.2.2.2.1
theorem rep.ca {S : Stk} {Z : StkA} (h9 : rep S Z) : ∀ i, i < S.FC S.P → Z.ca i = nI (S.CA i) := h9.2.2.2.2.1
theorem rep.cf {S : Stk} {Z : StkA} (h9 : rep S Z) : ∀ i, i < S.FC S.P → Z.cf i = nI (S.CF i) := h9.2.2.2.2.2.1
theorem rep.fl {S : Stk} {Z : StkA} (h9 : rep S Z) : ∀ i, i < S.FC S.P → S.f (S.CA i) = 2 → Z.fl i = nI (S.CL i) := h9.2.2.2.2.2.2.1
theorem rep.cp {S : Stk} {Z : StkA} (h9 : rep S Z) : ∀ p j, p < S.P → j < S.nT p → Z.cp (S.FC p + j) = nI p := h9.2.2.2.2.2.2.2.1
theorem rep.hs {S : Stk} {Z : StkA} (h9 : rep S Z) : ∀ i, i < S.P * 32 → Z.hs i = S.hf i := h9.2.2.2.2.2.2.2.2.1
theorem rep.bh {S : Stk} {Z : StkA} (h9 : rep S Z) : ∀ i, i < S.P → Z.bh i = nI (S.BH i) := h9.2.2.2.2.2.2.2.2.2.1
theorem rep.lo {S : Stk} {Z : StkA} (h9 : rep S Z) : Z.lo = S.lo := h9.2.2.2.2.2.2.2.2.2.2.1
theorem rep.lb {S : Stk} {Z : StkA} (h9 : rep S Z) : Z.lb = S.lb := h9.2.2.2.2.2.2.2.2.2.2.2.1
theorem rep.la {S : Stk} {Z : StkA} (h9 : rep S Z) : Z.la = S.la := h9.2.2.2.2.2.2.2.2.2.2.2.2.1
theorem rep.ll {S : Stk} {Z : StkA} (h9 : rep S Z) : Z.ll = S.ll := h9.2.2.2.2.2.2.2.2.2.2.2.2.2.1
theorem rep.lc {S : Stk} {Z : StkA} (h9 : rep S Z) : Z.lc = S.lc := h9.2.2.2.2.2.2.2.2.2.2.2.2.2.2.1
theorem rep.lp {S : Stk} {Z : StkA} (h9 : rep S Z) : Z.lp = S.lp := h9.2.2.2.2.2.2.2.2.2.2.2.2.2.2.2.1
theorem rep.lu {S : Stk} {Z : StkA} (h9 : rep S Z) : Z.lu = S.lu := h9.2.2.2.2.2.2.2.2.2.2.2.2.2.2.2.2.1
theorem rep.ld {S : Stk} {Z : StkA} (h9 : rep S Z) : Z.ld = S.ld := h9.2.2.2.2.2.2.2.2.2.2.2.2.2.2.2.2.2.1
theorem rep.ad {S : Stk} {Z : StkA} (h9 : rep S Z) : Z.ad = S.ad := h9.2.2.2.2.2.2.2.2.2.2.2.2.2.2.2.2.2.2.1
theorem rep.of {S : Stk} {Z : StkA} (h9 : rep S Z) : ∀ y, y < 200 → Z.of y = nI (S.LOp S.P y) := h9.2.2.2.2.2.2.2.2.2.2.2.2.2.2.2.2.2.2.2.1
theorem rep.byt {S : Stk} {Z : StkA} (h9 : rep S Z) : ∀ i, i < S.FR S.P → S.f i = Z.by' i := h9.2.2.2.2.2.2.2.2.2.2.2.2.2.2.2.2.2.2.2.2.1
theorem rep.pt {S : Stk} {Z : StkA} (h9 : rep S Z) : Z.pt = S.P := h9.2.2.2.2.2.2.2.2.2.2.2.2.2.2.2.2.2.2.2.2.2.1
theorem rep.nL {S : Stk} {Z : StkA} (h9 : rep S Z) : Z.nL = S.NLp S.P := h9.2.2.2.2.2.2.2.2.2.2.2.2.2.2.2.2.2.2.2.2.2.2.1
theorem rep.nF {S : Stk} {Z : StkA} (h9 : rep S Z) : Z.nF = S.NFp S.P := h9.2.2.2.2.2.2.2.2.2.2.2.2.2.2.2.2.2.2.2.2.2.2.2
/-- Z1 differs from Z behind what the stock holds alone -/
def same (S : Stk) (Z Z1 : StkA) : Prop := (∀ i, i ≤ S.P → Z1.fr i = Z.fr i) ∧ (∀ i, i ≤ S.P → Z1.fd i = Z.fd i) ∧ (∀ i, i ≤ S.P → Z1.fc i = Z.fc i) ∧ (∀ i, i < S.FD S.P → Z1.dp i = Z.dp i) ∧ (∀ i, i < S.FC S.P → Z1.ca i = Z.ca i) ∧ (∀ i, i < S.FC S.P → Z1.cf i = Z.cf i ∧ Z1.fl i = Z.fl i ∧ Z1.cp i = Z.cp i) ∧ (∀ i, i < S.P * 32 → Z1.hs i = Z.hs i) ∧ (Z1.bh = Z.bh) ∧ (Z1.lo = Z.lo) ∧ (Z1.lb = Z.lb) ∧ (Z1.la = Z.la) ∧ (Z1.ll = Z.ll) ∧ (Z1.lc = Z.lc) ∧ (Z1.lp = Z.lp) ∧ (Z1.lu = Z.lu) ∧ (Z1.ld = Z.ld) ∧ (Z1.ad = Z.ad) ∧ (Z1.of = Z.of) ∧ (Z1.by' = Z.by') ∧ (Z1.pt = Z.pt) ∧ (Z1.nL = Z.nL) ∧ (Z1.nF = Z.nF)
theorem same.fr {S : Stk} {Z Z1 : StkA} (h9 : same S Z Z1) : ∀ i, i ≤ S.P → Z1.fr i = Z.fr i := h9.1
theorem same.fd {S : Stk} {Z Z1 : StkA} (h9 : same S Z Z1) : ∀ i, i ≤ S.P → Z1.fd i = Z.fd i := h9.2.1
theorem same.fc {S : Stk} {Z Z1 : StkA} (h9 : same S Z Z1) : ∀ i, i ≤ S.P → Z1.fc i = Z.fc i := h9.2.2.1
theorem same.dp {S : Stk} {Z Z1 : StkA} (h9 : same S Z Z1) : ∀ i, i < S.FD S.P → Z1.dp i = Z.dp i := h9.2.2.2.1
theorem same.ca {S : Stk} {Z Z1 : StkA} (h9 : same S Z Z1) : ∀ i, i < S.FC S.P → Z1.ca i = Z.ca i := h9.2.2.2.2.1
theorem same.cc {S : Stk} {Z Z1 : StkA} (h9 : same S Z Z1) : ∀ i, i < S.FC S.P → Z1.cf i = Z.cf i ∧ Z1.fl i = Z.fl i ∧ Z1.cp i = Z.cp i := h9.2.2.2.2.2.1
theorem same.hs {S : Stk} {Z Z1 : StkA} (h9 : same S Z Z1) : ∀ i, i < S.P * 32 → Z1.hs i = Z.hs i := h9.2.2.2.2.2.2.1
theorem same.bh {S : Stk} {Z Z1 : StkA} (h9 : same S Z Z1) : Z1.bh = Z.bh := h9.2.2.2.2.2.2.2.1
theorem same.lo {S : Stk} {Z Z1 : StkA} (h9 : same S Z Z1) : Z1.lo = Z.lo := h9.2.2.2.2.2.2.2.2.1
theorem same.lb {S : Stk} {Z Z1 : StkA} (h9 : same S Z Z1) : Z1.lb = Z.lb := h9.2.2.2.2.2.2.2.2.2.1
theorem same.la {S : Stk} {Z Z1 : StkA} (h9 : same S Z Z1) : Z1.la = Z.la := h9.2.2.2.2.2.2.2.2.2.2.1
theorem same.ll {S : Stk} {Z Z1 : StkA} (h9 : same S Z Z1) : Z1.ll = Z.ll := h9.2.2.2.2.2.2.2.2.2.2.2.1
theorem same.lc {S : Stk} {Z Z1 : StkA} (h9 : same S Z Z1) : Z1.lc = Z.lc := h9.2.2.2.2.2.2.2.2.2.2.2.2.1
theorem same.lp {S : Stk} {Z Z1 : StkA} (h9 : same S Z Z1) : Z1.lp = Z.lp := h9.2.2.2.2.2.2.2.2.2.2.2.2.2.1
theorem same.lu {S : Stk} {Z Z1 : StkA} (h9 : same S Z Z1) : Z1.lu = Z.lu := h9.2.2.2.2.2.2.2.2.2.2.2.2.2.2.1
theorem same.ld {S : Stk} {Z Z1 : StkA} (h9 : same S Z Z1) : Z1.ld = Z.ld := h9.2.2.2.2.2.2.2.2.2.2.2.2.2.2.2.1
theorem same.ad {S : Stk} {Z Z1 : StkA} (h9 : same S Z Z1) : Z1.ad = Z.ad := h9.2.2.2.2.2.2.2.2.2.2.2.2.2.2.2.2.1
theorem same.of {S : Stk} {Z Z1 : StkA} (h9 : same S Z Z1) : Z1.of = Z.of := h9.2.2.2.2.2.2.2.2.2.2.2.2.2.2.2.2.2.1
theorem same.byt {S : Stk} {Z Z1 : StkA} (h9 : same S Z Z1) : Z1.by' = Z.by' := h9.2.2.2.2.2.2.2.2.2.2.2.2.2.2.2.2.2.2.1
theorem same.pt {S : Stk} {Z Z1 : StkA} (h9 : same S Z Z1) : Z1.pt = Z.pt := h9.2.2.2.2.2.2.2.2.2.2.2.2.2.2.2.2.2.2.2.1
theorem same.nL {S : Stk} {Z Z1 : StkA} (h9 : same S Z Z1) : Z1.nL = Z.nL := h9.2.2.2.2.2.2.2.2.2.2.2.2.2.2.2.2.2.2.2.2.1
theorem same.nF {S : Stk} {Z Z1 : StkA} (h9 : same S Z Z1) : Z1.nF = Z.nF := h9.2.2.2.2.2.2.2.2.2.2.2.2.2.2.2.2.2.2.2.2.2
theorem rep.same {S : Stk} {Z Z1 : StkA} (I : sInv S) (R : rep S Z) (h : same S Z Z1) : rep S Z1 := ⟨(fun i z => (h.fr i z).trans (R.fr i z)), (fun i z => (h.fd i z).trans (R.fd i z)), (fun i z => (h.fc i z).trans (R.fc i z)), (fun i z => (h.dp i z).trans (R.dp i z)), (fun i z => (h.ca i z).trans (R.ca i z)), (fun i z => (h.cc i z).1.trans (R.cf i z)), (fun i z q => (h.cc i z).2.1.trans (R.fl i z q)), (fun p j z1 z2 => by
    have e1 := (I.pi p z1).fc
    have e2 := I.fcm (i := p + 1) (k := S.P) (by omega) (Nat.le_refl _)
    exact (h.cc _ (by omega)).2.2.trans (R.cp p j z1 z2)), (fun i z => (h.hs i z).trans (R.hs i z)), (by rw [h.bh]; exact R.bh), (h.lo.trans R.lo), (h.lb.trans R.lb), (h.la.trans R.la), (h.ll.trans R.ll), (h.lc.trans R.lc), (h.lp.trans R.lp), (h.lu.trans R.lu), (h.ld.trans R.ld), (h.ad.trans R.ad), (by rw [h.of]; exact R.of), (by rw [h.byt]; exact R.byt), (h.pt.trans R.pt), (h.nL.trans R.nL), (h.nF.trans R.nF)⟩
/-- the patches by hash, with P at place rk -/
def bhX (BH : Nat → Nat) (P rk : Nat) : Nat → Nat := fun i => if i < rk then BH i else if i = rk then P else BH (i - 1)
theorem bhX_arr {BH : Nat → Nat} {b : Nat → Int32} {P rk : Nat} (hr : rk ≤ P) (h : ∀ i, i < P → b i = nI (BH i)) : ∀ i, i < P + 1 → upd (va_cpy b b rk (rk + 1) (P - rk)) rk (nI P) i = nI (bhX BH P rk i) := by
  intro i hi
  unfold bhX
  by_cases e : i = rk
  · subst e
    rw [upd_eq, if_neg (by omega), if_pos rfl]
  · rw [upd_ne _ e]
    by_cases z : i < rk
    · rw [if_pos z, vcp_out _ _ (by omega), h i (by omega)]
    · rw [if_neg z, if_neg e, vcp_in _ _ (by omega) (by omega), h _ (by omega)]
      congr 2
      omega
theorem bhX_lt {BH : Nat → Nat} {P rk : Nat} (h : ∀ i, i < P → BH i < P) : ∀ i, i < P + 1 → rk ≤ P → bhX BH P rk i < P + 1 := by
  intro i hi hr
  unfold bhX
  by_cases z : i < rk
  · rw [if_pos z]; have := h i (by omega); omega
  · rw [if_neg z]
    by_cases e : i = rk
    · rw [if_pos e]; omega
    · rw [if_neg e]; have := h (i - 1) (by omega); omega
theorem bhX_sur {BH : Nat → Nat} {P rk : Nat} (hr : rk ≤ P) (h : ∀ p, p < P → ∃ i, i < P ∧ BH i = p) : ∀ p, p < P + 1 → ∃ i, i < P + 1 ∧ bhX BH P rk i = p := by
  intro p hp
  by_cases e : p = P
  · subst e
    refine ⟨rk, by omega, ?_⟩
    unfold bhX
    rw [if_neg (by omega), if_pos rfl]
  · obtain ⟨i, h1, h2⟩ := h p (by omega)
    by_cases z : i < rk
    · refine ⟨i, by omega, ?_⟩
      unfold bhX
      rw [if_pos z, h2]
    · refine ⟨i + 1, by omega, ?_⟩
      unfold bhX
      rw [if_neg (by omega), if_neg (by omega), Nat.add_sub_cancel, h2]
theorem sq_total (a b : List Nat) : a < b ∨ a = b ∨ b < a := by
  rcases Classical.em (a < b) with h | h
  · exact Or.inl h
  · rcases Classical.em (b < a) with h2 | h2
    · exact Or.inr (Or.inr h2)
    · exact Or.inr (Or.inl (List.le_antisymm (List.not_lt.mp h2) (List.not_lt.mp h)))
theorem bhX_up {BH : Nat → Nat} {hf : Nat → Int32} {P rk : Nat} (hu : hs_up hf BH P) (hn : ∀ i, i < P → ¬ sq hf (BH i * 32) 32 = sq hf (P * 32) 32) (hk : rk_ok hf hf BH P (P * 32) rk) : hs_up hf (bhX BH P rk) (P + 1) := by
  obtain ⟨h1, h2, h3⟩ := hk
  have g2 : ∀ i, i < rk → sq hf (BH i * 32) 32 < sq hf (P * 32) 32 := fun i z => (bo_lt _ _ _ _ _).mp (h2 i z)
  have g3 : ∀ i, rk ≤ i → i < P → sq hf (P * 32) 32 < sq hf (BH i * 32) 32 := fun i z1 z2 => by
    rcases sq_total (sq hf (BH i * 32) 32) (sq hf (P * 32) 32) with z | z | z
    · exact absurd ((bo_lt _ _ _ _ _).mpr z) (h3 i z1 z2)
    · exact absurd z (hn i z2)
    · exact z
  intro i k hik hk
  unfold bhX
  by_cases a : i < rk
  · rw [if_pos a]
    by_cases b : k < rk
    · rw [if_pos b]; exact hu i k hik (by omega)
    · rw [if_neg b]
      by_cases c : k = rk
      · rw [if_pos c]; exact g2 i a
      · rw [if_neg c]; exact hu i (k - 1) (by omega) (by omega)
  · rw [if_neg a]
    by_cases d : i = rk
    · rw [if_pos d, if_neg (by omega), if_neg (by omega)]
      exact g3 (k - 1) (by omega) (by omega)
    · rw [if_neg d, if_neg (by omega), if_neg (by omega)]
      exact hu (i - 1) (k - 1) (by omega) (by omega)
/-- the dependencies of the candidate -/
noncomputable def dpN (S : Stk) (bf hs : Nat → Int32) : Nat → Nat := fun k => pQ hs S.BH S.P bf (S.FR S.P + 2 + k * 32)
/-- the files that the changes of the candidate are about -/
def cfOk (S : Stk) (bf hs : Nat → Int32) (en : Nat) (CF1 : Nat → Nat) : Prop := (∀ i, i < S.FC S.P → CF1 i = S.CF i) ∧ rsA bf (dpN S bf hs) S.FC (caX S bf en) CF1 (clX bf (caX S bf en) S.CL (S.FC S.P) (S.NLp S.P)) S.P (tw bf (S.FR S.P)) (S.FC S.P) (S.NFp S.P) (tw bf (S.FR S.P + 2 + tw bf (S.FR S.P) * 32))
/-- all dependencies of the candidate are named -/
def nmOk (S : Stk) (bf : Nat → Int32) (en : Nat) : Prop := ∀ k, k < tw bf (S.FR S.P) → ¬ nmXs bf (tw bf (S.FR S.P)) (caX S bf en) (S.FC S.P) (tw bf (S.FR S.P + 2 + tw bf (S.FR S.P) * 32)) (fun _ => 0) k = 0
def fuOk (S : Stk) (bf : Nat → Int32) (en : Nat) (CF1 : Nat → Nat) : Prop := fuR bf (caX S bf en) CF1 (S.FC S.P) (tw bf (S.FR S.P + 2 + tw bf (S.FR S.P) * 32)) (S.LOp S.P) S.P en (NFs bf (caX S bf en) (S.FC S.P) (S.NFp S.P) (tw bf (S.FR S.P + 2 + tw bf (S.FR S.P) * 32))) (NLs bf (caX S bf en) (S.FC S.P) (S.NLp S.P) (tw bf (S.FR S.P + 2 + tw bf (S.FR S.P) * 32)))
def dpOk (S : Stk) (bf hs : Nat → Int32) (mw : Nat → Int64) : Prop := ∀ k, k < tw bf (S.FR S.P) → depOk hs S.BH S.P bf mw (S.FR S.P) k
/-- the i-th patch by hash has the candidate's hash -/
def hit (S : Stk) (bf : Nat → Int32) (en i : Nat) : Prop := i < S.P ∧ sq S.hf (S.BH i * 32) 32 = sq (sh_outb (dg bf (S.FR S.P) (en - S.FR S.P))) 0 32
theorem rep.sq {S : Stk} {hs : Nat → Int32} (I : sInv S) (R : ∀ i, i < S.P * 32 → hs i = S.hf i) {i : Nat} (hi : i < S.P) : sq hs (S.BH i * 32) 32 = sq S.hf (S.BH i * 32) 32 := sq_congr 32 _ _ (fun k hk => R _ (by have := I.bh i hi; omega))
theorem rep.up {S : Stk} {hs : Nat → Int32} (I : sInv S) (R : ∀ i, i < S.P * 32 → hs i = S.hf i) : hs_up hs S.BH S.P := fun i k h1 h2 => by
  rw [rep.sq I R h2, rep.sq I R (Nat.lt_trans h1 h2)]
  exact I.up i k h1 h2
theorem dpN_ok {S : Stk} {bf hs : Nat → Int32} {mw : Nat → Int64} (I : sInv S) (R : ∀ i, i < S.P * 32 → hs i = S.hf i) (h : dpOk S bf hs mw) : ∀ k, k < tw bf (S.FR S.P) → dpN S bf hs k < S.P ∧ sq S.hf (dpN S bf hs k * 32) 32 = sq bf (S.FR S.P + 2 + k * 32) 32 ∧ re_ok mw (nI (dpN S bf hs k)) := fun k hk => by
  obtain ⟨q, h1, h2⟩ := h k hk
  have e : dpN S bf hs k = q := pQ_eq (rep.up I R) h1
  obtain ⟨i, z1, z2, z3⟩ := h1
  rw [e]
  refine ⟨by rw [z3]; exact I.bh i z1, ?_, h2⟩
  rw [z3, ← rep.sq I R z1]; exact z2
theorem cand_of {S : Stk} {bf hs : Nat → Int32} {mw : Nat → Int64} {en : Nat} {CF1 : Nat → Nat} (I : sInv S) (A : ∀ i, i < S.FR S.P → S.f i = bf i) (R : ∀ i, i < S.P * 32 → hs i = S.hf i) (hK : kept bf (S.FR S.P) en) (hD : dpOk S bf hs mw) (hC : cfOk S bf hs en CF1) (hN : nmOk S bf en) : cand S bf en (dpN S bf hs) CF1 (tw bf (S.FR S.P)) (tw bf (S.FR S.P + 2 + tw bf (S.FR S.P) * 32)) := ⟨(A), (rfl), (rfl), (hK), (fun k z => ⟨(dpN_ok I R hD k z).1, (dpN_ok I R hD k z).2.1⟩), (hC.1), (hC.2), (hN)⟩
/-- what settling the candidate answers, and the stock behind it -/
def stl (S : Stk) (bf hs : Nat → Int32) (en : Nat) (mw : Nat → Int64) (r : Int32) (S1 : Stk) : Prop :=
  (r = -1 ∧ S1 = S ∧ ¬ kept bf (S.FR S.P) en) ∨
  (r = -2 ∧ S1 = S ∧ kept bf (S.FR S.P) en ∧ ¬ dpOk S bf hs mw) ∨
  (S1 = S ∧ kept bf (S.FR S.P) en ∧ dpOk S bf hs mw ∧ ∃ i, hit S bf en i ∧ ((rowIn S.lo mw (S.BH i * 8) ∧ r = nI (S.BH i)) ∨ (¬ rowIn S.lo mw (S.BH i * 8) ∧ r = -2))) ∨
  (kept bf (S.FR S.P) en ∧ dpOk S bf hs mw ∧ (∀ i, ¬ hit S bf en i) ∧
    ((r = -3 ∧ S1 = S ∧ ¬ ∃ CF1, cfOk S bf hs en CF1) ∨
     (r = -4 ∧ S1 = S ∧ (∃ CF1, cfOk S bf hs en CF1) ∧ ¬ nmOk S bf en) ∨
     (∃ CF1, cfOk S bf hs en CF1 ∧ nmOk S bf en ∧
       ((r = -5 ∧ S1 = S ∧ fuOk S bf en CF1) ∨
        (r = nI S.P ∧ ¬ fuOk S bf en CF1 ∧ ∃ BH1 hf1 lo1 lb1 la ll lc lp lu ld ad, S1 = S.ext bf en (dpN S bf hs) CF1 BH1 (tw bf (S.FR S.P)) (tw bf (S.FR S.P + 2 + tw bf (S.FR S.P) * 32)) hf1 lo1 lb1 la ll lc lp lu ld ad ∧ sInv S1)))))

