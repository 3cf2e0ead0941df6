/-! 80.new.lean.txt -/
theorem chW_cg {f g : Nat → Int32} {n a : Nat} (hg : ∀ i, i < n → f i = g i) (hw : chW f n a) : chW g n a := by
  obtain ⟨h1, h2, h3, h4, h5⟩ := hw
  have ea := hg a (by omega)
  have e5 := hg (a + 5) h1
  refine ⟨h1, fun z => ?_, fun z => ?_, fun z => h4 (ea.trans z), fun z => h5 (ea.trans z)⟩
  · rw [← e5]; exact h2 (ea.trans z)
  · obtain ⟨w1, w2, w3, w4⟩ := h3 (ea.trans z)
    have e6 := plEnd_cg hg h1
    rw [← e5, ← e6, ← hg _ w2, ← lnAt_cg hg h1 w2]
    exact ⟨w1, w2, w3, w4⟩
theorem sInv.lln {S : Stk} (I : sInv S) (n : Nat) (hn : n < 512) : ∀ p, p < S.P → btr S.lo (p * 8) n = true → n < p := by
  intro p
  induction p using Nat.strongRecOn with
  | _ p ih =>
    intro hp h
    obtain ⟨k, z1, z2⟩ := ((I.pi p hp).ln n hn).mp h
    have z3 := ((I.pi p hp).dep k z1).1
    rcases z2 with z2 | z2
    · omega
    · have := ih _ z3 (by omega) z2
      omega
section
variable {S : Stk} {bf : Nat → Int32} {en : Nat} {DPn CF1 BH1 : Nat → Nat} {nd T : Nat} {hf1 : Nat → Int32} {lo1 lb1 : Nat → Int64} {la ll lc lp lu ld ad : Nat → Int32}
theorem cand.len (C : cand S bf en DPn CF1 nd T) : S.FR S.P + 4 + nd * 32 + 7 * T ≤ en := by
  have h := C.kept.len
  rw [C.hT, C.hnd]
  exact h
theorem cand.chg (C : cand S bf en DPn CF1 nd T) {j : Nat} (hj : j < T) : chR bf en (caX S bf en (S.FC S.P + j)) (sS bf en (S.FR S.P + 2 + tw bf (S.FR S.P) * 32 + 2) (j + 1)) := by
  rw [caX_ge]
  exact (C.kept.2.2.2.2.1 j (by rw [C.hT, C.hnd] at hj; exact hj)).2
theorem cand.chw (I : sInv S) (C : cand S bf en DPn CF1 nd T) {x : Nat} (hx : x < S.FC S.P + T) : chW bf en (caX S bf en x) := by
  by_cases e : x < S.FC S.P
  · rw [caX_lt e]
    exact (chW_cg C.agr (I.chw (Nat.le_refl _) e)).mono (by have := C.len; omega)
  · obtain ⟨j, rfl⟩ : ∃ j, x = S.FC S.P + j := ⟨x - S.FC S.P, by omega⟩
    exact (C.chg (by omega)).W
theorem cand.ndl (C : cand S bf en DPn CF1 nd T) : nd ≤ S.P := by
  refine pigeon S.P nd DPn (fun k z => (C.dep k z).1) (fun i k hi hk e => ?_)
  have e1 := (C.dep i hi).2
  have e2 := (C.dep k hk).2
  rw [e] at e1
  have e3 := e1.symm.trans e2
  have hr := C.kept.2.2.1
  rw [← C.hnd] at hr
  rcases Nat.lt_trichotomy i k with z | z | z
  · exact absurd e3 (rising.ne hr z hk)
  · exact z
  · exact absurd e3.symm (rising.ne hr z hi)
/-- the candidate becomes a patch -/
theorem sInv.new (I : sInv S) (C : cand S bf en DPn CF1 nd T) (M : more S bf en DPn CF1 BH1 nd T hf1 lo1 lb1 la ll lc lp lu ld ad) : pInv (S.ext bf en DPn CF1 BH1 nd T hf1 lo1 lb1 la ll lc lp lu ld ad) S.P := by
  generalize hS : S.ext bf en DPn CF1 BH1 nd T hf1 lo1 lb1 la ll lc lp lu ld ad = S'
  have eP : S'.f = bf := by rw [← hS]; rfl
  have eF : S'.FR S.P = S.FR S.P := by rw [← hS]; exact upN_ne _ (by omega)
  have eF1 : S'.FR (S.P + 1) = en := by rw [← hS]; exact upN_eq _ _ _
  have eD : S'.FD S.P = S.FD S.P := by rw [← hS]; exact upN_ne _ (by omega)
  have eD1 : S'.FD (S.P + 1) = S.FD S.P + nd := by rw [← hS]; exact upN_eq _ _ _
  have eC : ∀ i, i ≤ S.P → S'.FC i = S.FC i := fun i z => by rw [← hS]; exact upN_ne _ (by omega)
  have eC1 : S'.FC (S.P + 1) = S.FC S.P + T := by rw [← hS]; exact upN_eq _ _ _
  have eN : S'.NFp S.P = S.NFp S.P := by rw [← hS]; exact upN_ne _ (by omega)
  have eL : S'.NLp S.P = S.NLp S.P := by rw [← hS]; exact upN_ne _ (by omega)
  have eA : S'.CA = caX S bf en := by rw [← hS]; rfl
  have eCF : S'.CF = CF1 := by rw [← hS]; rfl
  have eCL : S'.CL = clX bf (caX S bf en) S.CL (S.FC S.P) (S.NLp S.P) := by rw [← hS]; rfl
  have eh : S'.hf = hf1 := by rw [← hS]; rfl
  have eo : S'.lo = lo1 := by rw [← hS]; rfl
  have en1 : S'.nd S.P = nd := by
    unfold Stk.nd
    rw [eF, eP, C.hnd]
  have est : S'.st S.P = S.FR S.P + 2 + nd * 32 := by
    unfold Stk.st
    rw [en1, eF]
  have eT : S'.nT S.P = T := by
    unfold Stk.nT
    rw [est, eP, C.hT]
  have edp : S'.dp S.P = DPn := by
    funext k
    unfold Stk.dp
    rw [eD, ← hS]
    show (if S.FD S.P + k < S.FD S.P then S.DP (S.FD S.P + k) else DPn (S.FD S.P + k - S.FD S.P)) = DPn k
    rw [if_neg (by omega), Nat.add_sub_cancel_left]
  have hnd5 : nd ≤ 2048 := Nat.le_trans C.ndl (by have := I.hP; omega)
  have AG : ∀ j, j ≤ T → Agr bf bf DPn DPn S.FC S'.FC (caX S bf en) (caX S bf en) CF1 CF1 (clX bf (caX S bf en) S.CL (S.FC S.P) (S.NLp S.P)) (clX bf (caX S bf en) S.CL (S.FC S.P) (S.NLp S.P)) en S.P nd (S.FC S.P + j) := fun j hj => ⟨(fun _ _ => rfl), (fun _ _ => rfl), (fun i z => (C.dep i z).1), (fun i z => (eC i z).symm), (fun _ _ => rfl), (fun _ _ => rfl), (fun _ _ => rfl), (fun i z => C.chw I (by omega)), (fun i z => Nat.le_trans (I.fcm (i := i + 1) (k := S.P) (by omega) (Nat.le_refl _)) (by omega))⟩
  refine ⟨?_, ?_, ?_, ?_, ?_, ?_, ?_, ?_, ?_, ?_, ?_, ?_, ?_, ?_, ?_⟩
  · rw [eP, eF, eF1]; exact C.kept
  · rw [eD1, eD, en1]
  · rw [eC1, eC _ (Nat.le_refl _), eT]
  · intro j hj
    rw [eA, eC _ (Nat.le_refl _), caX_ge, eP, eF1, est, C.hnd]
  · intro k hk
    rw [en1] at hk
    obtain ⟨d1, d2⟩ := C.dep k hk
    rw [edp, eh, eP, eF, ← d2]
    exact ⟨d1, sq_congr 32 _ _ (fun i z => M.hf _ (by omega))⟩
  · rw [eP, edp, eA, eCF, eCL, en1, eC _ (Nat.le_refl _), eN, eT]
    intro j hj
    exact (AG j (by omega)).rs (C.chg hj).W hnd5 (C.rs j hj)
  · intro j hj
    rw [eCL, eC _ (Nat.le_refl _), clX_at, eP, eA, eL]
  · rw [eP, eA, eC _ (Nat.le_refl _), eN, eT, ← hS]; exact upN_eq _ _ _
  · rw [eP, eA, eC _ (Nat.le_refl _), eL, eT, ← hS]; exact upN_eq _ _ _
  · rw [eP, eA, eCF, eC _ (Nat.le_refl _), eT, ← hS]
    show (if S.P + 1 = S.P + 1 then _ else _) = lcs bf (caX S bf en) CF1 (S.FC S.P) T (if S.P = S.P + 1 then _ else _)
    rw [if_pos rfl, if_neg (by omega)]
  · intro j hj e
    rw [eT] at hj
    rw [eP, eA, eC _ (Nat.le_refl _)] at e
    rw [eP, edp, eCL, en1, eA, eC _ (Nat.le_refl _), clX_at]
    have r := (M.li j hj e).cg (AG j (by omega)) e (C.chg hj)
    rw [← hS] at r ⊢
    exact r
  · intro j hj e
    rw [eT] at hj
    rw [eP, eA, eC _ (Nat.le_refl _)] at e
    rw [eP, eA, eC _ (Nat.le_refl _), eN, ← hS]
    exact M.gad j hj e
  · intro k hk
    rw [en1] at hk
    rw [eP, en1, eA, eC _ (Nat.le_refl _), eT]
    exact C.nm k hk
  · intro k hk
    rw [eh, eP, eF, eF1]
    exact M.hs k hk
  · intro n hn
    rw [eo, en1, edp, M.ln.2 n hn]
    have z0 : btr S.lo (S.P * 8) n = false := by
      unfold btr
      rw [I.lz _ (by omega) (by have := M.hP; omega)]
      show (0 : BitVec 64).getLsbD _ = false
      simp
    have q : ∀ k, k < nd → btr lo1 (DPn k * 8) n = btr S.lo (DPn k * 8) n := fun k z => by
      have := (C.dep k z).1
      unfold btr
      rw [M.ln.1 _ (Or.inl (by omega))]
    constructor
    · rintro (a | ⟨k, a, b⟩)
      · rw [z0] at a; cases a
      · exact ⟨k, a, by rw [q k a]; exact b⟩
    · rintro ⟨k, a, b⟩
      rw [q k a] at b
      exact Or.inr ⟨k, a, b⟩
/-- the stock with the candidate is a stock -/
theorem sInv.ext (I : sInv S) (C : cand S bf en DPn CF1 nd T) (M : more S bf en DPn CF1 BH1 nd T hf1 lo1 lb1 la ll lc lp lu ld ad) : sInv (S.ext bf en DPn CF1 BH1 nd T hf1 lo1 lb1 la ll lc lp lu ld ad) := by
  have hP := M.hP
  have lo_eq : ∀ q n, q < S.P → n < 512 → btr lo1 (q * 8) n = btr S.lo (q * 8) n := fun q n z z2 => by
    unfold btr
    rw [M.ln.1 _ (Or.inl (by omega))]
  refine ⟨(by show S.P + 1 ≤ 500; omega), ((by show upN S.FR (S.P + 1) en 0 = 0; rw [upN_ne _ (by omega)]; exact I.fr0)), ((by show upN S.FD (S.P + 1) (S.FD S.P + nd) 0 = 0; rw [upN_ne _ (by omega)]; exact I.fd0)), ((by show upN S.FC (S.P + 1) (S.FC S.P + T) 0 = 0; rw [upN_ne _ (by omega)]; exact I.fc0)), ((by show upN S.NFp (S.P + 1) (NFs bf (caX S bf en) (S.FC S.P) (S.NFp S.P) T) 0 = 0; rw [upN_ne _ (by omega)]; exact I.nf0)), ((by show upN S.NLp (S.P + 1) (NLs bf (caX S bf en) (S.FC S.P) (S.NLp S.P) T) 0 = 0; rw [upN_ne _ (by omega)]; exact I.nl0)), (fun y => ?_), (fun p hp => ?_), (?_), (?_), (?_), (fun y => ?_), (M.bh), (M.up), (M.sur), (fun k h1 h2 => ?_), (fun q n hq hn => ?_)⟩
  · show (if 0 = S.P + 1 then lcs bf (caX S bf en) CF1 (S.FC S.P) T (S.LOp S.P) else S.LOp 0) y = 0
    rw [if_neg (by omega)]; exact I.lo0 y
  · have hp : p < S.P + 1 := hp
    by_cases e : p = S.P
    · subst e; exact I.new C M
    · exact I.old C M (by omega)
  · show upN S.FR (S.P + 1) en (S.P + 1) ≤ _
    rw [upN_eq]; exact M.hen
  · show upN S.NFp (S.P + 1) (NFs bf (caX S bf en) (S.FC S.P) (S.NFp S.P) T) (S.P + 1) ≤ _
    rw [upN_eq]; exact M.nf
  · show upN S.NLp (S.P + 1) (NLs bf (caX S bf en) (S.FC S.P) (S.NLp S.P) T) (S.P + 1) ≤ _
    rw [upN_eq]; exact M.nl
  · show (if S.P + 1 = S.P + 1 then lcs bf (caX S bf en) CF1 (S.FC S.P) T (S.LOp S.P) else S.LOp (S.P + 1)) y ≤ 400
    rw [if_pos rfl]; exact M.lo y
  · have h1 : (S.P + 1) * 8 ≤ k := h1
    show lo1 k = 0
    rw [M.ln.1 k (Or.inr (by omega))]
    exact I.lz k (by omega) h2
  · show btr lb1 (q * 8) n = (decide (n < S.P + 1) && btr lo1 (n * 8) q)
    rw [M.lb, lbX_bit hP hn, I.lbz q n hq hn]
    have h0 : btr lo1 (S.P * 8) q = true → q < S.P := fun z => by
      rcases (M.ln.2 q (by omega)).mp z with a | ⟨k, a, b⟩
      · have : btr S.lo (S.P * 8) q = false := by
          unfold btr
          rw [I.lz _ (by omega) (by omega)]
          show (0 : BitVec 64).getLsbD _ = false
          simp
        rw [this] at a; cases a
      · have d := (C.dep k a).1
        rcases b with b | b
        · omega
        · have := I.lln q (by omega) _ d b
          omega
    rcases Nat.lt_trichotomy n S.P with z | z | z
    · rw [lo_eq n q z (by omega)]
      have : ¬ n = S.P := by omega
      simp [z, this, show n < S.P + 1 by omega]
    · subst z
      cases hb : btr lo1 (S.P * 8) q with
      | false => simp
      | true => simp [h0 hb]
    · have z1 : ¬ n < S.P := by omega
      have z2 : ¬ n = S.P := by omega
      have z3 : ¬ n < S.P + 1 := by omega
      simp [z1, z2, z3]
end

