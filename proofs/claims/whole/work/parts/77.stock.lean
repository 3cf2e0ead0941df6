/-! 77.stock.lean.txt -/
/-- what the stock holds -/
def Stk : Type := Nat × (Nat → Nat) × (Nat → Nat) × (Nat → Nat) × (Nat → Nat) × (Nat → Nat) × (Nat → Nat → Nat) × (Nat → Nat) × (Nat → Nat) × (Nat → Nat) × (Nat → Nat) × (Nat → Nat) × (Nat → Int32) × (Nat → Int32) × (Nat → Int64) × (Nat → Int64) × (Nat → Int32) × (Nat → Int32) × (Nat → Int32) × (Nat → Int32) × (Nat → Int32) × (Nat → Int32) × (Nat → Int32)
def Stk.P (s9 : Stk) : Nat := s9.1
def Stk.FR (s9 : Stk) : Nat → Nat := s9.2.1
def Stk.FD (s9 : Stk) : Nat → Nat := s9.2.2.1
def Stk.FC (s9 : Stk) : Nat → Nat := s9.2.2.2.1
def Stk.NFp (s9 : Stk) : Nat → Nat := s9.2.2.2.2.1
def Stk.NLp (s9 : Stk) : Nat → Nat := s9.2.2.2.2.2.1
def Stk.LOp (s9 : Stk) : Nat → Nat → Nat := s9.2.2.2.2.2.2.1
def Stk.DP (s9 : Stk) : Nat → Nat := s9.2.2.2.2.2.2.2.1
def Stk.CA (s9 : Stk) : Nat → Nat := s9.2.2.2.2.2.2.2.2.1
def Stk.CF (s9 : Stk) : Nat → Nat := s9.2.2.2.2.2.2.2.2.2.1
def Stk.CL (s9 : Stk) : Nat → Nat := s9.2.2.2.2.2.2.2.2.2.2.1
def Stk.BH (s9 : Stk) : Nat → Nat := s9.2.2.2.2.2.2.2.2.2.2.2.1
def Stk.f (s9 : Stk) : Nat → Int32 := s9.2.2.2.2.2.2.2.2.2.2.2.2.1
def Stk.hf (s9 : Stk) : Nat → Int32 := s9.2.2.2.2.2.2.2.2.2.2.2.2.2.1
def Stk.lo (s9 : Stk) : Nat → Int64 := s9.2.2.2.2.2.2.2.2.2.2.2.2.2.2.1
def Stk.lb (s9 : Stk) : Nat → Int64 := s9.2.2.2.2.2.2.2.2.2.2.2.2.2.2.2.1
def Stk.la (s9 : Stk) : Nat → Int32 := s9.2.2.2.2.2.2.2.2.2.2.2.2.2.2.2.2.1
def Stk.ll (s9 : Stk) : Nat → Int32 := s9.2.2.2.2.2.2.2.2.2.2.2.2.2.2.2.2.2.1
def Stk.lc (s9 : Stk) : Nat → Int32 := s9.2.2.2.2.2.2.2.2.2.2.2.2.2.2.2.2.2.2.1
def Stk.lp (s9 : Stk) : Nat → Int32 := s9.2.2.2.2.2.2.2.2.2.2.2.2.2.2.2.2.2.2.2.1
def Stk.lu (s9 : Stk) : Nat → Int32 := s9.2.2.2.2.2.2.2.2.2.2.2.2.2.2.2.2.2.2.2.2.1
def Stk.ld (s9 : Stk) : Nat → Int32 := s9.2.2.2.2.2.2.2.2.2.2.2.2.2.2.2.2.2.2.2.2.2.1
def Stk.ad (s9 : Stk) : Nat → Int32 := s9.2.2.2.2.2.2.2.2.2.2.2.2.2.2.2.2.2.2.2.2.2.2
def Stk.mk (P : Nat) (FR : Nat → Nat) (FD : Nat → Nat) (FC : Nat → Nat) (NFp : Nat → Nat) (NLp : Nat → Nat) (LOp : Nat → Nat → Nat) (DP : Nat → Nat) (CA : Nat → Nat) (CF : Nat → Nat) (CL : Nat → Nat) (BH : Nat → Nat) (f : Nat → Int32) (hf : Nat → Int32) (lo : Nat → Int64) (lb : Nat → Int64) (la : Nat → Int32) (ll : Nat → Int32) (lc : Nat → Int32) (lp : Nat → Int32) (lu : Nat → Int32) (ld : Nat → Int32) (ad : Nat → Int32) : Stk := (P, FR, FD, FC, NFp, NLp, LOp, DP, CA, CF, CL, BH, f, hf, lo, lb, la, ll, lc, lp, lu, ld, ad)
/-- the number of dependencies of patch p -/
def Stk.nd (S : Stk) (p : Nat) : Nat := tw S.f (S.FR p)
/-- where the changes of patch p begin -/
def Stk.st (S : Stk) (p : Nat) : Nat := S.FR p + 2 + S.nd p * 32
/-- the number of changes of patch p -/
def Stk.nT (S : Stk) (p : Nat) : Nat := tw S.f (S.st p)
def Stk.dp (S : Stk) (p : Nat) : Nat → Nat := fun k => S.DP (S.FD p + k)
/-- patch p is a patch -/
def pInv (S : Stk) (p : Nat) : Prop := (kept S.f (S.FR p) (S.FR (p + 1))) ∧ (S.FD (p + 1) = S.FD p + S.nd p) ∧ (S.FC (p + 1) = S.FC p + S.nT p) ∧ (∀ j, j < S.nT p → S.CA (S.FC p + j) = sS S.f (S.FR (p + 1)) (S.st p + 2) j) ∧ (∀ k, k < S.nd p → S.dp p k < p ∧ sq S.hf (S.dp p k * 32) 32 = sq S.f (S.FR p + 2 + k * 32) 32) ∧ (rsA S.f (S.dp p) S.FC S.CA S.CF S.CL p (S.nd p) (S.FC p) (S.NFp p) (S.nT p)) ∧ (∀ j, j < S.nT p → S.CL (S.FC p + j) = NLs S.f S.CA (S.FC p) (S.NLp p) j) ∧ (S.NFp (p + 1) = NFs S.f S.CA (S.FC p) (S.NFp p) (S.nT p)) ∧ (S.NLp (p + 1) = NLs S.f S.CA (S.FC p) (S.NLp p) (S.nT p)) ∧ (S.LOp (p + 1) = lcs S.f S.CA S.CF (S.FC p) (S.nT p) (S.LOp p)) ∧ (∀ j, j < S.nT p → S.f (S.CA (S.FC p + j)) = 2 → liR S.f (S.dp p) S.FC S.CL p (S.nd p) (S.FC p + j) (S.CA (S.FC p + j)) (S.CL (S.FC p + j)) S.la S.ll S.lc S.lp S.lu S.ld) ∧ (∀ j, j < S.nT p → S.f (S.CA (S.FC p + j)) = 0 → S.ad (NFs S.f S.CA (S.FC p) (S.NFp p) j) = nI (S.FC p + j)) ∧ (∀ k, k < S.nd p → ¬ nmXs S.f (S.nd p) S.CA (S.FC p) (S.nT p) (fun _ => 0) k = 0) ∧ (∀ k, k < 32 → S.hf (p * 32 + k) = sh_outb (dg S.f (S.FR p) (S.FR (p + 1) - S.FR p)) k) ∧ (∀ n, n < 512 → (btr S.lo (p * 8) n = true ↔ ∃ k, k < S.nd p ∧ (n = S.dp p k ∨ btr S.lo (S.dp p k * 8) n = true)))
theorem pInv.kept {S : Stk} {p : Nat} (h9 : pInv S p) : kept S.f (S.FR p) (S.FR (p + 1)) := h9.1
theorem pInv.fd {S : Stk} {p : Nat} (h9 : pInv S p) : S.FD (p + 1) = S.FD p + S.nd p := h9.2.1
theorem pInv.fc {S : Stk} {p : Nat} (h9 : pInv S p) : S.FC (p + 1) = S.FC p + S.nT p := h9.2.2.1
theorem pInv.ca {S : Stk} {p : Nat} (h9 : pInv S p) : ∀ j, j < S.nT p → S.CA (S.FC p + j) = sS S.f (S.FR (p + 1)) (S.st p + 2) j := h9.2.2.2.1
theorem pInv.dep {S : Stk} {p : Nat} (h9 : pInv S p) : ∀ k, k < S.nd p → S.dp p k < p ∧ sq S.hf (S.dp p k * 32) 32 = sq S.f (S.FR p + 2 + k * 32) 32 := h9.2.2.2.2.1
theorem pInv.rs {S : Stk} {p : Nat} (h9 : pInv S p) : rsA S.f (S.dp p) S.FC S.CA S.CF S.CL p (S.nd p) (S.FC p) (S.NFp p) (S.nT p) := h9.2.2.2.2.2.1
theorem pInv.cl {S : Stk} {p : Nat} (h9 : pInv S p) : ∀ j, j < S.nT p → S.CL (S.FC p + j) = NLs S.f S.CA (S.FC p) (S.NLp p) j := h9.2.2.2.2.2.2.1
theorem pInv.nf {S : Stk} {p : Nat} (h9 : pInv S p) : S.NFp (p + 1) = NFs S.f S.CA (S.FC p) (S.NFp p) (S.nT p) := h9.2.2.2.2.2.2.2.1
theorem pInv.nl {S : Stk} {p : Nat} (h9 : pInv S p) : S.NLp (p + 1) = NLs S.f S.CA (S.FC p) (S.NLp p) (S.nT p) := h9.2.2.2.2.2.2.2.2.1
theorem pInv.lo {S : Stk} {p : Nat} (h9 : pInv S p) : S.LOp (p + 1) = lcs S.f S.CA S.CF (S.FC p) (S.nT p) (S.LOp p) := h9.2.2.2.2.2.2.2.2.2.1
theorem pInv.li {S : Stk} {p : Nat} (h9 : pInv S p) : ∀ j, j < S.nT p → S.f (S.CA (S.FC p + j)) = 2 → liR S.f (S.dp p) S.FC S.CL p (S.nd p) (S.FC p + j) (S.CA (S.FC p + j)) (S.CL (S.FC p + j)) S.la S.ll S.lc S.lp S.lu S.ld := h9.2.2.2.2.2.2.2.2.2.2.1
theorem pInv.ad {S : Stk} {p : Nat} (h9 : pInv S p) : ∀ j, j < S.nT p → S.f (S.CA (S.FC p + j)) = 0 → S.ad (NFs S.f S.CA (S.FC p) (S.NFp p) j) = nI (S.FC p + j) := h9.2.2.2.2.2.2.2.2.2.2.2.1
theorem pInv.nm {S : Stk} {p : Nat} (h9 : pInv S p) : ∀ k, k < S.nd p → ¬ nmXs S.f (S.nd p) S.CA (S.FC p) (S.nT p) (fun _ => 0) k = 0 := h9.2.2.2.2.2.2.2.2.2.2.2.2.1
theorem pInv.hs {S : Stk} {p : Nat} (h9 : pInv S p) : ∀ k, k < 32 → S.hf (p * 32 + k) = sh_outb (dg S.f (S.FR p) (S.FR (p + 1) - S.FR p)) k := h9.2.2.2.2.2.2.2.2.2.2.2.2.2.1
theorem pInv.ln {S : Stk} {p : Nat} (h9 : pInv S p) : ∀ n, n < 512 → (btr S.lo (p * 8) n = true ↔ ∃ k, k < S.nd p ∧ (n = S.dp p k ∨ btr S.lo (S.dp p k * 8) n = true)) := h9.2.2.2.2.2.2.2.2.2.2.2.2.2.2
/-- the stock is a stock -/
def sInv (S : Stk) : Prop := (S.P ≤ 500) ∧ (S.FR 0 = 0) ∧ (S.FD 0 = 0) ∧ (S.FC 0 = 0) ∧ (S.NFp 0 = 0) ∧ (S.NLp 0 = 0) ∧ (∀ y, S.LOp 0 y = 0) ∧ (∀ p, p < S.P → pInv S p) ∧ (S.FR S.P ≤ 200000) ∧ (S.NFp S.P ≤ 200) ∧ (S.NLp S.P ≤ 4000) ∧ (∀ y, S.LOp S.P y ≤ 400) ∧ (∀ i, i < S.P → S.BH i < S.P) ∧ (hs_up S.hf S.BH S.P) ∧ (∀ p, p < S.P → ∃ i, i < S.P ∧ S.BH i = p) ∧ (∀ k, S.P * 8 ≤ k → k < 4000 → S.lo k = 0) ∧ (∀ q n, q < 500 → n < 512 → btr S.lb (q * 8) n = (decide (n < S.P) && btr S.lo (n * 8) q))
theorem sInv.hP {S : Stk} (h9 : sInv S) : S.P ≤ 500 := h9.1
theorem sInv.fr0 {S : Stk} (h9 : sInv S) : S.FR 0 = 0 := h9.2.1
theorem sInv.fd0 {S : Stk} (h9 : sInv S) : S.FD 0 = 0 := h9.2.2.1
theorem sInv.fc0 {S : Stk} (h9 : sInv S) : S.FC 0 = 0 := h9.2.2.2.1
theorem sInv.nf0 {S : Stk} (h9 : sInv S) : S.NFp 0 = 0 := h9.2.2.2.2.1
theorem sInv.nl0 {S : Stk} (h9 : sInv S) : S.NLp 0 = 0 := h9.2.2.2.2.2.1
theorem sInv.lo0 {S : Stk} (h9 : sInv S) : ∀ y, S.LOp 0 y = 0 := h9.2.2.2.2.2.2.1
theorem sInv.pi {S : Stk} (h9 : sInv S) : ∀ p, p < S.P → pInv S p := h9.2.2.2.2.2.2.2.1
theorem sInv.frP {S : Stk} (h9 : sInv S) : S.FR S.P ≤ 200000 := h9.2.2.2.2.2.2.2.2.1
theorem sInv.nfP {S : Stk} (h9 : sInv S) : S.NFp S.P ≤ 200 := h9.2.2.2.2.2.2.2.2.2.1
theorem sInv.nlP {S : Stk} (h9 : sInv S) : S.NLp S.P ≤ 4000 := h9.2.2.2.2.2.2.2.2.2.2.1
theorem sInv.loP {S : Stk} (h9 : sInv S) : ∀ y, S.LOp S.P y ≤ 400 := h9.2.2.2.2.2.2.2.2.2.2.2.1
theorem sInv.bh {S : Stk} (h9 : sInv S) : ∀ i, i < S.P → S.BH i < S.P := h9.2.2.2.2.2.2.2.2.2.2.2.2.1
theorem sInv.up {S : Stk} (h9 : sInv S) : hs_up S.hf S.BH S.P := h9.2.2.2.2.2.2.2.2.2.2.2.2.2.1
theorem sInv.sur {S : Stk} (h9 : sInv S) : ∀ p, p < S.P → ∃ i, i < S.P ∧ S.BH i = p := h9.2.2.2.2.2.2.2.2.2.2.2.2.2.2.1
theorem sInv.lz {S : Stk} (h9 : sInv S) : ∀ k, S.P * 8 ≤ k → k < 4000 → S.lo k = 0 := h9.2.2.2.2.2.2.2.2.2.2.2.2.2.2.2.1
theorem sInv.lbz {S : Stk} (h9 : sInv S) : ∀ q n, q < 500 → n < 512 → btr S.lb (q * 8) n = (decide (n < S.P) && btr S.lo (n * 8) q) := h9.2.2.2.2.2.2.2.2.2.2.2.2.2.2.2.2
theorem chW.mono {f : Nat → Int32} {n m a : Nat} (h : n ≤ m) (hw : chW f n a) : chW f m a := by
  obtain ⟨h1, h2, h3, h4, h5⟩ := hw
  refine ⟨by omega, fun z => by have := h2 z; omega, fun z => ?_, fun z => by have := h4 z; omega, fun z => by have := h5 z; omega⟩
  obtain ⟨a1, a2, a3, a4⟩ := h3 z
  exact ⟨fun z => by have := a1 z; omega, by omega, fun z => by have := a3 z; omega, by omega⟩
theorem chain.len {f : Nat → Int32} {en a T : Nat} (h : chain f en a T) : ∀ j, j ≤ T → a + 7 * j ≤ sS f en a j
  | 0, _ => Nat.le_refl _
  | j + 1, hj => by
    have ih := chain.len h j (by omega)
    have := (h j (by omega)).2.le
    omega
theorem kept.len {f : Nat → Int32} {s0 en : Nat} (h : kept f s0 en) : s0 + 4 + tw f s0 * 32 + 7 * tw f (s0 + 2 + tw f s0 * 32) ≤ en := by
  have h1 := chain.len h.2.2.2.2.1 _ (Nat.le_refl _)
  have h2 := h.2.2.2.2.2
  omega
theorem pigeon : ∀ (m n : Nat) (g : Nat → Nat), (∀ i, i < n → g i < m) → (∀ i j, i < n → j < n → g i = g j → i = j) → n ≤ m
  | 0, n, g, h, _ => by
    rcases Nat.eq_zero_or_pos n with z | z
    · omega
    · exact absurd (h 0 z) (Nat.not_lt_zero _)
  | m + 1, 0, _, _, _ => Nat.zero_le _
  | m + 1, n + 1, g, h, hi => by
    have := pigeon m n (fun i => if g i = m then g n else g i) (fun i z => by
      have h1 := h i (by omega)
      have h2 := h n (by omega)
      by_cases e : g i = m
      · rw [if_pos e]
        have : ¬ g n = m := fun q => absurd (hi i n (by omega) (by omega) (e.trans q.symm)) (by omega)
        omega
      · rw [if_neg e]; omega) (fun i j zi zj e => by
      by_cases e1 : g i = m <;> by_cases e2 : g j = m
      · exact hi i j (by omega) (by omega) (e1.trans e2.symm)
      · rw [if_pos e1, if_neg e2] at e
        exact absurd (hi n j (by omega) (by omega) e) (by omega)
      · rw [if_neg e1, if_pos e2] at e
        exact absurd (hi i n (by omega) (by omega) e) (by omega)
      · rw [if_neg e1, if_neg e2] at e
        exact hi i j (by omega) (by omega) e)
    omega
theorem rising.lt {f : Nat → Int32} {a d i : Nat} (h : rising f a d) : ∀ {k}, i < k → k < d → sq f (a + i * 32) 32 < sq f (a + k * 32) 32
  | 0, h1, _ => absurd h1 (Nat.not_lt_zero _)
  | k + 1, h1, h2 => by
    by_cases e : i = k
    · subst e; exact h i h2
    · exact List.lt_trans (rising.lt h (i := i) (k := k) (by omega) (by omega)) (h k h2)
theorem rising.ne {f : Nat → Int32} {a d i k : Nat} (h : rising f a d) (h1 : i < k) (h2 : k < d) : ¬ sq f (a + i * 32) 32 = sq f (a + k * 32) 32 := fun e => by
  have := h.lt h1 h2
  rw [e] at this
  exact absurd this (List.lt_irrefl _)
theorem sInv.le1 {S : Stk} (I : sInv S) {p : Nat} (hp : p < S.P) : S.FR p + 4 + S.nd p * 32 + 7 * S.nT p ≤ S.FR (p + 1) := (I.pi p hp).kept.len
theorem sInv.frm {S : Stk} (I : sInv S) {i : Nat} : ∀ {k}, i ≤ k → k ≤ S.P → S.FR i ≤ S.FR k
  | 0, h, _ => by rw [show i = 0 by omega]; exact Nat.le_refl _
  | k + 1, h, hk => by
    by_cases e : i = k + 1
    · rw [e]; exact Nat.le_refl _
    · have := sInv.frm I (i := i) (k := k) (by omega) (by omega)
      have := I.le1 (p := k) (by omega)
      omega
theorem sInv.fcm {S : Stk} (I : sInv S) {i : Nat} : ∀ {k}, i ≤ k → k ≤ S.P → S.FC i ≤ S.FC k
  | 0, h, _ => by rw [show i = 0 by omega]; exact Nat.le_refl _
  | k + 1, h, hk => by
    by_cases e : i = k + 1
    · rw [e]; exact Nat.le_refl _
    · have := sInv.fcm I (i := i) (k := k) (by omega) (by omega)
      have := (I.pi k (by omega)).fc
      omega
theorem sInv.fdm {S : Stk} (I : sInv S) {i : Nat} : ∀ {k}, i ≤ k → k ≤ S.P → S.FD i ≤ S.FD k
  | 0, h, _ => by rw [show i = 0 by omega]; exact Nat.le_refl _
  | k + 1, h, hk => by
    by_cases e : i = k + 1
    · rw [e]; exact Nat.le_refl _
    · have := sInv.fdm I (i := i) (k := k) (by omega) (by omega)
      have := (I.pi k (by omega)).fd
      omega
theorem sInv.nfm {S : Stk} (I : sInv S) {i : Nat} : ∀ {k}, i ≤ k → k ≤ S.P → S.NFp i ≤ S.NFp k
  | 0, h, _ => by rw [show i = 0 by omega]; exact Nat.le_refl _
  | k + 1, h, hk => by
    by_cases e : i = k + 1
    · rw [e]; exact Nat.le_refl _
    · have h1 := sInv.nfm I (i := i) (k := k) (by omega) (by omega)
      have h2 := (I.pi k (by omega)).nf
      have h3 := NFs_mono S.f S.CA (S.FC k) (S.NFp k) (i := 0) (j := S.nT k) (Nat.zero_le _)
      have h3 : S.NFp k ≤ NFs S.f S.CA (S.FC k) (S.NFp k) (S.nT k) := h3
      omega
theorem sInv.nlm {S : Stk} (I : sInv S) {i : Nat} : ∀ {k}, i ≤ k → k ≤ S.P → S.NLp i ≤ S.NLp k
  | 0, h, _ => by rw [show i = 0 by omega]; exact Nat.le_refl _
  | k + 1, h, hk => by
    by_cases e : i = k + 1
    · rw [e]; exact Nat.le_refl _
    · have h1 := sInv.nlm I (i := i) (k := k) (by omega) (by omega)
      have h2 := (I.pi k (by omega)).nl
      have h3 := NLs_mono S.f S.CA (S.FC k) (S.NLp k) (i := 0) (j := S.nT k) (Nat.zero_le _)
      have h3 : S.NLp k ≤ NLs S.f S.CA (S.FC k) (S.NLp k) (S.nT k) := h3
      omega
theorem sInv.room {S : Stk} (I : sInv S) : ∀ {k}, k ≤ S.P → S.FD k * 32 + S.FC k * 7 ≤ S.FR k
  | 0, _ => by rw [I.fd0, I.fc0]; exact Nat.zero_le _
  | k + 1, hk => by
    have := sInv.room I (k := k) (by omega)
    have h1 := I.le1 (p := k) (by omega)
    have h2 := (I.pi k (by omega)).fd
    have h3 := (I.pi k (by omega)).fc
    omega
/-- every change has its patch -/
theorem sInv.own {S : Stk} (I : sInv S) {c : Nat} : ∀ {k}, k ≤ S.P → c < S.FC k → ∃ p j, p < k ∧ j < S.nT p ∧ c = S.FC p + j
  | 0, _, h => by rw [I.fc0] at h; exact absurd h (Nat.not_lt_zero _)
  | k + 1, hk, h => by
    by_cases e : c < S.FC k
    · obtain ⟨p, j, h1, h2, h3⟩ := sInv.own I (k := k) (by omega) e
      exact ⟨p, j, by omega, h2, h3⟩
    · have := (I.pi k (by omega)).fc
      exact ⟨k, c - S.FC k, by omega, by omega, by omega⟩
theorem sInv.chg {S : Stk} (I : sInv S) {p j : Nat} (hp : p < S.P) (hj : j < S.nT p) : chR S.f (S.FR (p + 1)) (S.CA (S.FC p + j)) (sS S.f (S.FR (p + 1)) (S.st p + 2) (j + 1)) := by
  have h := (I.pi p hp)
  rw [h.ca j hj]
  exact (h.kept.2.2.2.2.1 j hj).2
theorem sInv.chw {S : Stk} (I : sInv S) {x : Nat} {k : Nat} (hk : k ≤ S.P) (hx : x < S.FC k) : chW S.f (S.FR k) (S.CA x) := by
  obtain ⟨p, j, h1, h2, rfl⟩ := I.own hk hx
  exact (I.chg (by omega) h2).W.mono (I.frm (by omega) hk)
theorem sInv.ndl {S : Stk} (I : sInv S) {p : Nat} (hp : p < S.P) : S.nd p ≤ p := by
  have h := I.pi p hp
  refine pigeon p (S.nd p) (S.dp p) (fun k z => (h.dep k z).1) (fun i k hi hk e => ?_)
  have e1 := (h.dep i hi).2
  have e2 := (h.dep k hk).2
  rw [e] at e1
  have e3 := e1.symm.trans e2
  rcases Nat.lt_trichotomy i k with z | z | z
  · exact absurd e3 (rising.ne h.kept.2.2.1 z hk)
  · exact z
  · exact absurd e3.symm (rising.ne h.kept.2.2.1 z hi)

