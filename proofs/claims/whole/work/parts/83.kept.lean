/-! 83.kept.lean.txt -/
theorem sq_dg {D hs : Nat → Int32} (P : Nat) : sq (sh_out D (P * 32) 32 hs) (P * 32) 32 = sq (sh_outb D) 0 32 := sq_congr 32 _ _ (fun k hk => by
  unfold sh_out
  rw [if_pos (by omega), Nat.add_sub_cancel_left, Nat.zero_add])
theorem hit_iff {S : Stk} {bf hs : Nat → Int32} {en i : Nat} (I : sInv S) (R : ∀ i, i < S.P * 32 → hs i = S.hf i) (hi : i < S.P) : (sq (sh_out (dg bf (S.FR S.P) (en - S.FR S.P)) (S.P * 32) 32 hs) (S.BH i * 32) 32 = sq (sh_out (dg bf (S.FR S.P) (en - S.FR S.P)) (S.P * 32) 32 hs) (S.P * 32) 32) ↔ hit S bf en i := by
  have hb := I.bh i hi
  rw [sq_dg, sq_out (by omega), rep.sq I R hi]
  exact ⟨fun z => ⟨hi, z⟩, fun z => z.2⟩
/-- what keeping the contents does -/
def kpt (S : Stk) (bf hs : Nat → Int32) (en : Nat) (CF1 : Nat → Nat) (Z : StkA) (la ll lc lp lu ld of ad : Nat → Int32) : Prop :=
  (∀ i, i < tw bf (S.FR S.P + 2 + tw bf (S.FR S.P) * 32) → bf (caX S bf en (S.FC S.P + i)) = 2 → liR bf (dpN S bf hs) S.FC (clX bf (caX S bf en) S.CL (S.FC S.P) (S.NLp S.P)) S.P (tw bf (S.FR S.P)) (S.FC S.P + i) (caX S bf en (S.FC S.P + i)) (NLs bf (caX S bf en) (S.FC S.P) (S.NLp S.P) i) la ll lc lp lu ld) ∧
  (∀ q, q < S.NLp S.P → la q = Z.la q ∧ ll q = Z.ll q ∧ lc q = Z.lc q ∧ lp q = Z.lp q ∧ lu q = Z.lu q ∧ ld q = Z.ld q) ∧
  (∀ i, i < 200 → of i = nI (lcs bf (caX S bf en) CF1 (S.FC S.P) (tw bf (S.FR S.P + 2 + tw bf (S.FR S.P) * 32)) (S.LOp S.P) i) ∧ lcs bf (caX S bf en) CF1 (S.FC S.P) (tw bf (S.FR S.P + 2 + tw bf (S.FR S.P) * 32)) (S.LOp S.P) i ≤ 400) ∧
  (∀ i, i < tw bf (S.FR S.P + 2 + tw bf (S.FR S.P) * 32) → bf (caX S bf en (S.FC S.P + i)) = 0 → ad (NFs bf (caX S bf en) (S.FC S.P) (S.NFp S.P) i) = nI (S.FC S.P + i)) ∧
  (∀ i, i < S.NFp S.P → ad i = Z.ad i)
theorem more_of {S : Stk} {Z : StkA} {en rk : Nat} {mw : Nat → Int64} {CF1 : Nat → Nat} {la ll lc lp lu ld of ad : Nat → Int32} {lo1 lb1 : Nat → Int64} (K : cK S Z en) (hD : dpOk S Z.by' Z.hs mw) (hC : cfOk S Z.by' Z.hs en CF1) (hf : ¬ fuOk S Z.by' en CF1) (hu : ∀ i, i < S.P → ¬ sq (sh_out (dg Z.by' (S.FR S.P) (en - S.FR S.P)) (S.P * 32) 32 Z.hs) (S.BH i * 32) 32 = sq (sh_out (dg Z.by' (S.FR S.P) (en - S.FR S.P)) (S.P * 32) 32 Z.hs) (S.P * 32) 32) (hk : kpt S Z.by' Z.hs en CF1 Z la ll lc lp lu ld of ad) (hn : lnO Z.lo lo1 (dpN S Z.by' Z.hs) S.P (tw Z.by' (S.FR S.P))) (hr : rk_ok (sh_out (dg Z.by' (S.FR S.P) (en - S.FR S.P)) (S.P * 32) 32 Z.hs) (sh_out (dg Z.by' (S.FR S.P) (en - S.FR S.P)) (S.P * 32) 32 Z.hs) S.BH S.P (S.P * 32) rk) (hb : lb1 = lbX Z.lb lo1 S.P S.P) :
    more S Z.by' en (dpN S Z.by' Z.hs) CF1 (bhX S.BH S.P rk) (tw Z.by' (S.FR S.P)) (tw Z.by' (S.FR S.P + 2 + tw Z.by' (S.FR S.P) * 32)) (sh_out (dg Z.by' (S.FR S.P) (en - S.FR S.P)) (S.P * 32) 32 Z.hs) lo1 lb1 la ll lc lp lu ld ad := by
  obtain ⟨I, R, hkp, he, hT, hsz⟩ := id K
  have f1 : S.P < 500 := Nat.lt_of_not_le (fun z => hf (Or.inl z))
  have f2 : en ≤ 200000 := Nat.le_of_not_lt (fun z => hf (Or.inr (Or.inl z)))
  have f3 := Nat.le_of_not_lt (fun z => hf (Or.inr (Or.inr (Or.inl z))))
  have f4 := Nat.le_of_not_lt (fun z => hf (Or.inr (Or.inr (Or.inr (Or.inl z)))))
  have hr1 := hr.1
  refine ⟨f1, f2, f3, f4, ?_, fun i z => bhX_lt I.bh i z hr1, ?_, bhX_sur hr1 I.sur, ?_, ?_, R.lo ▸ hn, R.lb ▸ hb, hk.1, ?_, hk.2.2.2.1, ?_⟩
  · intro y
    by_cases z : y < 200
    · exact (hk.2.2.1 y z).2
    · rw [lcs_out (fun i h1 _ => by
        have := K.gF R.hs hD hC (S.FC S.P + i) (by omega)
        omega)]
      exact I.loP y
  · refine bhX_up (fun i k h1 h2 => ?_) hu hr
    have b1 := I.bh i (by omega)
    have b2 := I.bh k h2
    rw [sq_out (by omega), sq_out (by omega)]
    exact rep.up I R.hs i k h1 h2
  · intro i hi
    unfold sh_out
    rw [if_neg (by omega)]
    exact R.hs i hi
  · intro k hk
    unfold sh_out
    rw [if_pos (by omega), Nat.add_sub_cancel_left]
  · intro q hq
    rw [← R.la, ← R.ll, ← R.lc, ← R.lp, ← R.lu, ← R.ld]
    exact hk.2.1 q hq
  · intro i hi
    rw [← R.ad]
    exact hk.2.2.2.2 i hi
theorem rep_ext {S : Stk} {Z : StkA} {en rk : Nat} {mw : Nat → Int64} {CF1 : Nat → Nat} {fr1 fd1 fc1 dp1 ca1 cp1 cf1 fl1 bh1 na lf sm wd bl la ll lc lp lu ld of ad hf1 : Nat → Int32} {lo1 lb1 : Nat → Int64} {v1 v2 v3 v4 : Value} (K : cK S Z en) (hD : dpOk S Z.by' Z.hs mw) (hC : cfOk S Z.by' Z.hs en CF1)
    (g1 : ∀ i, i ≤ S.P → fr1 i = Z.fr i) (g2 : fr1 (S.P + 1) = nI en) (g3 : fd1 = upd Z.fd (S.P + 1) (nI (S.FD S.P + tw Z.by' (S.FR S.P)))) (g4 : fc1 = upd Z.fc (S.P + 1) (nI (S.FC S.P + tw Z.by' (S.FR S.P + 2 + tw Z.by' (S.FR S.P) * 32)))) (g5 : ∀ i, i < S.FD S.P → dp1 i = Z.dp i) (g6 : ∀ i, i < tw Z.by' (S.FR S.P) → dp1 (S.FD S.P + i) = nI (dpN S Z.by' Z.hs i))
    (g7 : ∀ i, i < S.FC S.P + tw Z.by' (S.FR S.P + 2 + tw Z.by' (S.FR S.P) * 32) → ca1 i = nI (caX S Z.by' en i)) (g8 : ∀ i, i < S.FC S.P + tw Z.by' (S.FR S.P + 2 + tw Z.by' (S.FR S.P) * 32) → cf1 i = nI (CF1 i)) (g9 : ∀ i, i < S.FC S.P + tw Z.by' (S.FR S.P + 2 + tw Z.by' (S.FR S.P) * 32) → Z.by' (caX S Z.by' en i) = 2 → fl1 i = nI (clX Z.by' (caX S Z.by' en) S.CL (S.FC S.P) (S.NLp S.P) i)) (g10 : ∀ i, i < S.FC S.P → cp1 i = Z.cp i) (g11 : ∀ i, S.FC S.P ≤ i → i < S.FC S.P + tw Z.by' (S.FR S.P + 2 + tw Z.by' (S.FR S.P) * 32) → cp1 i = nI S.P)
    (g12 : ∀ i, i < S.P + 1 → bh1 i = nI (bhX S.BH S.P rk i)) (g13 : ∀ i, i < 200 → of i = nI (lcs Z.by' (caX S Z.by' en) CF1 (S.FC S.P) (tw Z.by' (S.FR S.P + 2 + tw Z.by' (S.FR S.P) * 32)) (S.LOp S.P) i)) :
    rep (S.ext Z.by' en (dpN S Z.by' Z.hs) CF1 (bhX S.BH S.P rk) (tw Z.by' (S.FR S.P)) (tw Z.by' (S.FR S.P + 2 + tw Z.by' (S.FR S.P) * 32)) hf1 lo1 lb1 la ll lc lp lu ld ad) (StkA.mk Z.by' fr1 fd1 fc1 dp1 hf1 bh1 lo1 lb1 ca1 cp1 cf1 fl1 ad la ll lc lp lu ld of na lf sm wd bl v1 v2 v3 v4 (S.P + 1) (NLs Z.by' (caX S Z.by' en) (S.FC S.P) (S.NLp S.P) (tw Z.by' (S.FR S.P + 2 + tw Z.by' (S.FR S.P) * 32))) (NFs Z.by' (caX S Z.by' en) (S.FC S.P) (S.NFp S.P) (tw Z.by' (S.FR S.P + 2 + tw Z.by' (S.FR S.P) * 32)))) := by
  obtain ⟨I, R, hkp, he, hT, hsz⟩ := id K
  generalize hnd : tw Z.by' (S.FR S.P) = nd at *
  generalize hTT : tw Z.by' (S.FR S.P + 2 + nd * 32) = T at *
  have hl := hkp.len
  rw [hnd, hTT] at hl
  refine ⟨?_, ?_, ?_, ?_, ?_, ?_, ?_, ?_, fun _ _ => rfl, g12, rfl, rfl, rfl, rfl, rfl, rfl, rfl, rfl, rfl, ?_, fun _ _ => rfl, rfl, (upN_eq _ _ _).symm, (upN_eq _ _ _).symm⟩
  · intro i hi
    have hi : i ≤ S.P + 1 := hi
    show fr1 i = nI (upN S.FR (S.P + 1) en i)
    by_cases e : i = S.P + 1
    · rw [e, upN_eq]; exact g2
    · rw [upN_ne _ e, g1 i (by omega)]; exact R.fr i (by omega)
  · intro i hi
    have hi : i ≤ S.P + 1 := hi
    show fd1 i = nI (upN S.FD (S.P + 1) (S.FD S.P + nd) i)
    rw [g3]
    by_cases e : i = S.P + 1
    · rw [e, upN_eq, upd_eq]
    · rw [upN_ne _ e, upd_ne _ e]; exact R.fd i (by omega)
  · intro i hi
    have hi : i ≤ S.P + 1 := hi
    show fc1 i = nI (upN S.FC (S.P + 1) (S.FC S.P + T) i)
    rw [g4]
    by_cases e : i = S.P + 1
    · rw [e, upN_eq, upd_eq]
    · rw [upN_ne _ e, upd_ne _ e]; exact R.fc i (by omega)
  · intro i hi
    have hi : i < upN S.FD (S.P + 1) (S.FD S.P + nd) (S.P + 1) := hi
    rw [upN_eq] at hi
    show dp1 i = nI (if i < S.FD S.P then S.DP i else dpN S Z.by' Z.hs (i - S.FD S.P))
    by_cases e : i < S.FD S.P
    · rw [if_pos e, g5 i e]; exact R.dp i e
    · rw [if_neg e, ← g6 _ (by omega)]
      congr 1; omega
  · intro i hi
    have hi : i < upN S.FC (S.P + 1) (S.FC S.P + T) (S.P + 1) := hi
    rw [upN_eq] at hi
    exact g7 i hi
  · intro i hi
    have hi : i < upN S.FC (S.P + 1) (S.FC S.P + T) (S.P + 1) := hi
    rw [upN_eq] at hi
    exact g8 i hi
  · intro i hi
    have hi : i < upN S.FC (S.P + 1) (S.FC S.P + T) (S.P + 1) := hi
    rw [upN_eq] at hi
    exact g9 i hi
  · intro p j hp hj
    have hp : p < S.P + 1 := hp
    by_cases e : p = S.P
    · subst e
      have e1 : (S.ext Z.by' en (dpN S Z.by' Z.hs) CF1 (bhX S.BH S.P rk) nd T hf1 lo1 lb1 la ll lc lp lu ld ad).FC S.P = S.FC S.P := upN_ne _ (by omega)
      have e2 : (S.ext Z.by' en (dpN S Z.by' Z.hs) CF1 (bhX S.BH S.P rk) nd T hf1 lo1 lb1 la ll lc lp lu ld ad).FR S.P = S.FR S.P := upN_ne _ (by omega)
      have e3 : (S.ext Z.by' en (dpN S Z.by' Z.hs) CF1 (bhX S.BH S.P rk) nd T hf1 lo1 lb1 la ll lc lp lu ld ad).nT S.P = T := by
        unfold Stk.nT Stk.st Stk.nd
        rw [e2]
        show tw Z.by' (S.FR S.P + 2 + tw Z.by' (S.FR S.P) * 32) = T
        rw [hnd, hTT]
      rw [e3] at hj
      rw [e1]
      exact g11 _ (by omega) (by omega)
    · have hp2 : p < S.P := by omega
      have h := I.pi p hp2
      have m1 := I.frm (i := p + 1) (k := S.P) (by omega) (Nat.le_refl _)
      have m2 := I.fcm (i := p + 1) (k := S.P) (by omega) (Nat.le_refl _)
      have l1 := I.le1 hp2
      have l2 := h.fc
      have e1 : (S.ext Z.by' en (dpN S Z.by' Z.hs) CF1 (bhX S.BH S.P rk) nd T hf1 lo1 lb1 la ll lc lp lu ld ad).FC p = S.FC p := upN_ne _ (by omega)
      have e2 : (S.ext Z.by' en (dpN S Z.by' Z.hs) CF1 (bhX S.BH S.P rk) nd T hf1 lo1 lb1 la ll lc lp lu ld ad).FR p = S.FR p := upN_ne _ (by omega)
      have hg : ∀ i, i < S.FR (p + 1) → S.f i = Z.by' i := fun i z => R.byt i (by omega)
      have q1 : tw Z.by' (S.FR p) = S.nd p := (tw_cg hg (by omega)).symm
      have e3 : (S.ext Z.by' en (dpN S Z.by' Z.hs) CF1 (bhX S.BH S.P rk) nd T hf1 lo1 lb1 la ll lc lp lu ld ad).nT p = S.nT p := by
        unfold Stk.nT Stk.st Stk.nd
        rw [e2]
        show tw Z.by' (S.FR p + 2 + tw Z.by' (S.FR p) * 32) = tw S.f (S.FR p + 2 + S.nd p * 32)
        rw [q1]
        exact (tw_cg hg (by omega)).symm
      rw [e3] at hj
      rw [e1]
      exact (g10 _ (by omega)).trans (R.cp p j hp2 hj)
  · intro y hy
    show of y = nI ((if S.P + 1 = S.P + 1 then lcs Z.by' (caX S Z.by' en) CF1 (S.FC S.P) T (S.LOp S.P) else S.LOp (S.P + 1)) y)
    rw [if_pos rfl]
    exact g13 y hy

