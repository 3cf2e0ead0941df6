/-! 99zzzca.named.lean.txt -/
/-- the patches that are named, by rising hash -/
def ndL (S : Stk) (nm : Nat → Int32) : Nat → List Nat
  | 0 => []
  | i + 1 => ndL S nm i ++ (if nmb S nm i = true then [S.BH i] else [])
theorem ndL_yes {S : Stk} {nm : Nat → Int32} {i : Nat} (h : nmb S nm i = true) : ndL S nm (i + 1) = ndL S nm i ++ [S.BH i] := by
  show ndL S nm i ++ (if nmb S nm i = true then [S.BH i] else []) = _
  rw [if_pos h]
theorem ndL_no {S : Stk} {nm : Nat → Int32} {i : Nat} (h : ¬ nmb S nm i = true) : ndL S nm (i + 1) = ndL S nm i := by
  show ndL S nm i ++ (if nmb S nm i = true then [S.BH i] else []) = _
  rw [if_neg h, List.append_nil]
theorem ndL_len (S : Stk) (nm : Nat → Int32) : ∀ i, (ndL S nm i).length = cnt (nmb S nm) i
  | 0 => rfl
  | i + 1 => by
    by_cases h : nmb S nm i = true
    · rw [ndL_yes h, List.length_append, ndL_len S nm i, ← cnt_yes h]; rfl
    · rw [ndL_no h, ndL_len S nm i, cnt_no h]
theorem ndL_mem {S : Stk} {nm : Nat → Int32} {x : Nat} : ∀ i, x ∈ ndL S nm i ↔ ∃ k, k < i ∧ nmb S nm k = true ∧ S.BH k = x
  | 0 => ⟨fun z => absurd z List.not_mem_nil, fun ⟨k, z, _⟩ => absurd z (Nat.not_lt_zero _)⟩
  | i + 1 => by
    by_cases h : nmb S nm i = true
    · rw [ndL_yes h, List.mem_append, ndL_mem i, List.mem_singleton]
      constructor
      · rintro (⟨k, z1, z2, z3⟩ | z)
        · exact ⟨k, by omega, z2, z3⟩
        · exact ⟨i, by omega, h, z.symm⟩
      · rintro ⟨k, z1, z2, z3⟩
        by_cases e : k = i
        · rw [e] at z3; exact Or.inr z3.symm
        · exact Or.inl ⟨k, by omega, z2, z3⟩
    · rw [ndL_no h, ndL_mem i]
      constructor
      · rintro ⟨k, z1, z2, z3⟩
        exact ⟨k, by omega, z2, z3⟩
      · rintro ⟨k, z1, z2, z3⟩
        exact ⟨k, by have : ¬ k = i := fun e => h (e ▸ z2); omega, z2, z3⟩
theorem ndL_at {S : Stk} {nm : Nat → Int32} {k : Nat} (hk : nmb S nm k = true) : ∀ {i}, k < i → (ndL S nm i).getD (cnt (nmb S nm) k) 0 = S.BH k
  | 0, h => absurd h (Nat.not_lt_zero _)
  | i + 1, h => by
    by_cases e : k = i
    · rw [← e, ndL_yes hk, ← ndL_len, List.getD_eq_getElem?_getD, List.getElem?_append_right (Nat.le_refl _), Nat.sub_self]; rfl
    · have ih := ndL_at hk (i := i) (by omega)
      have hlt : cnt (nmb S nm) k < (ndL S nm i).length := by
        rw [ndL_len]
        have h1 := cnt_yes hk
        have h2 := cnt_mono (b := nmb S nm) (show k + 1 ≤ i by omega)
        omega
      by_cases h2 : nmb S nm i = true
      · rw [ndL_yes h2, List.getD_eq_getElem?_getD, List.getElem?_append_left hlt, ← List.getD_eq_getElem?_getD]; exact ih
      · rw [ndL_no h2]; exact ih
theorem ndL_ix {S : Stk} {nm : Nat → Int32} : ∀ {i j}, j < (ndL S nm i).length → ∃ k, k < i ∧ nmb S nm k = true ∧ cnt (nmb S nm) k = j
  | 0, j, h => absurd h (Nat.not_lt_zero _)
  | i + 1, j, h => by
    by_cases h2 : nmb S nm i = true
    · rw [ndL_yes h2, List.length_append] at h
      have h : j < (ndL S nm i).length + 1 := h
      by_cases e : j = (ndL S nm i).length
      · exact ⟨i, by omega, h2, by rw [e, ndL_len]⟩
      · obtain ⟨k, z1, z2, z3⟩ := ndL_ix (S := S) (nm := nm) (i := i) (j := j) (by omega)
        exact ⟨k, by omega, z2, z3⟩
    · rw [ndL_no h2] at h
      obtain ⟨k, z1, z2, z3⟩ := ndL_ix (S := S) (nm := nm) (i := i) (j := j) h
      exact ⟨k, by omega, z2, z3⟩
theorem mrp.ndS {S : Stk} {Z : Mda} {G : Gr} (M : mrp S Z G) (I : sInv S) (nm : Nat → Int32) : srt (hsG G.H) (ndL S nm S.P) := by
  intro a b hab hb
  obtain ⟨ka, h1, h2, h3⟩ := ndL_ix (S := S) (nm := nm) (i := S.P) (j := a) (by omega)
  obtain ⟨kb, h4, h5, h6⟩ := ndL_ix (S := S) (nm := nm) (i := S.P) (j := b) hb
  rw [← h3, ← h6, ndL_at h2 h1, ndL_at h5 h4]
  show sq (G.H (S.BH ka)) 0 32 < sq (G.H (S.BH kb)) 0 32
  rw [M.hsq (I.bh ka h1), M.hsq (I.bh kb h4)]
  refine I.up ka kb ?_ h4
  rcases Nat.lt_or_ge ka kb with z | z
  · exact z
  · have := cnt_mono (b := nmb S nm) z
    omega
theorem ndL_in {S : Stk} (I : sInv S) {nm : Nat → Int32} {x : Nat} : x ∈ ndL S nm S.P ↔ (x < S.P ∧ nmd nm x = true) := by
  rw [ndL_mem]
  constructor
  · rintro ⟨k, z1, z2, z3⟩
    rw [← z3]
    exact ⟨I.bh k z1, z2⟩
  · rintro ⟨z1, z2⟩
    obtain ⟨k, h1, h2⟩ := I.sur x z1
    exact ⟨k, h1, by unfold nmb; rw [h2]; exact z2, h2⟩
theorem mrp.ndQ {S : Stk} {Z : Mda} {G : Gr} (M : mrp S Z G) (I : sInv S) {nm pl : Nat → Int32} (h : plR9 S nm pl S.P) : plQ pl (ndL S nm S.P) := by
  refine ⟨(M.ndS I nm).nodup (fun a => hsG.ir a), fun x hx => ?_, fun k hk => ?_⟩
  · have h1 := ((ndL_in I).mp hx).1
    have h2 := I.hP
    omega
  · obtain ⟨r, h1, h2, h3⟩ := ndL_ix (S := S) (nm := nm) (i := S.P) (j := k) hk
    rw [← h3, ndL_at h2 h1]
    exact h r h1 h2
theorem byL_cg {g g' : Nat → Int32} {a a' : Nat} : ∀ n, (∀ i, i < n → g (a + i) = g' (a' + i)) → byL g a n = byL g' a' n
  | 0, _ => rfl
  | n + 1, h => by
    show byL g a n ++ [g (a + n)] = byL g' a' n ++ [g' (a' + n)]
    rw [byL_cg n (fun i z => h i (by omega)), h n (by omega)]
theorem hdM_cg {H : Nat → Nat → Int32} {A B : Nat → Nat} : ∀ k, (∀ i, i < k → A i = B i) → hdM H A k = hdM H B k
  | 0, _ => rfl
  | k + 1, h => by
    show hdM H A k ++ byL (H (A k)) 0 32 = hdM H B k ++ byL (H (B k)) 0 32
    rw [hdM_cg k (fun i z => h i (by omega)), h k (by omega)]
theorem mrp.ndH {S : Stk} {Z : Mda} {G : Gr} (M : mrp S Z G) (I : sInv S) {hs nm : Nat → Int32} (R : ∀ i, i < S.P * 32 → hs i = S.hf i) : ∀ i, i ≤ S.P → hdM G.H (fun j => (ndL S nm i).getD j 0) (ndL S nm i).length = hdL S hs nm i
  | 0, _ => rfl
  | i + 1, hi => by
    have ih := mrp.ndH M I (nm := nm) R i (by omega)
    show _ = hdL S hs nm i ++ (if nmb S nm i = true then byL hs (S.BH i * 32) 32 else [])
    by_cases h : nmb S nm i = true
    · rw [if_pos h, ← ih, ndL_yes h, List.length_append]
      show hdM G.H (fun j => (ndL S nm i ++ [S.BH i]).getD j 0) (ndL S nm i).length ++ byL (G.H ((ndL S nm i ++ [S.BH i]).getD (ndL S nm i).length 0)) 0 32 = _
      have e1 : (ndL S nm i ++ [S.BH i]).getD (ndL S nm i).length 0 = S.BH i := by
        rw [List.getD_eq_getElem?_getD, List.getElem?_append_right (Nat.le_refl _), Nat.sub_self]; rfl
      have e2 : hdM G.H (fun j => (ndL S nm i ++ [S.BH i]).getD j 0) (ndL S nm i).length = hdM G.H (fun j => (ndL S nm i).getD j 0) (ndL S nm i).length := hdM_cg _ (fun j hj => by
        show (ndL S nm i ++ [S.BH i]).getD j 0 = (ndL S nm i).getD j 0
        rw [List.getD_eq_getElem?_getD, List.getElem?_append_left hj, ← List.getD_eq_getElem?_getD])
      have hb := I.bh i (by omega)
      have e3 : byL (G.H (S.BH i)) 0 32 = byL hs (S.BH i * 32) 32 := byL_cg 32 (fun j hj => by rw [Nat.zero_add, M.2.2.2.2.1.2.2 _ j hb hj, R _ (by omega)])
      rw [e1, e2, e3]
    · rw [if_neg h, List.append_nil, ndL_no h]; exact ih
theorem cnt_BH {S : Stk} (I : sInv S) (b : Nat → Bool) : cnt (fun k => b (S.BH k)) S.P = cnt b S.P := by
  have hL : ((List.range S.P).map S.BH).Nodup := by
    rw [List.nodup_iff_pairwise_ne, List.pairwise_map]
    refine List.Pairwise.imp_of_mem ?_ (List.pairwise_lt_range)
    intro a c ha hc h
    exact I.inj a c h (List.mem_range.mp hc)
  have key := cnt_same (L := (List.range S.P).map S.BH) (K := List.range S.P) hL List.nodup_range (fun x => by
    rw [List.mem_map]
    constructor
    · rintro ⟨k, z1, z2⟩
      rw [← z2]; exact List.mem_range.mpr (I.bh k (List.mem_range.mp z1))
    · intro z
      obtain ⟨k, h1, h2⟩ := I.sur x (List.mem_range.mp z)
      exact ⟨k, List.mem_range.mpr h1, h2⟩) (b := fun k => b (S.BH k)) (c := b) (Q := fun x => b x = true) (fun a ha => by
    rw [List.length_map, List.length_range] at ha
    rw [List.getD_eq_getElem?_getD, List.getElem?_map, List.getElem?_range ha]; exact Iff.rfl) (fun a ha => by
    rw [List.length_range] at ha
    rw [List.getD_eq_getElem?_getD, List.getElem?_range ha]; exact Iff.rfl)
  rw [List.length_map, List.length_range] at key
  exact key
/-- the head that the class writes is the head that the reference says -/
theorem mrp.hdE {S : Stk} {Z : Mda} {G : Gr} (M : mrp S Z G) (I : sInv S) {hs nm : Nat → Int32} (R : ∀ i, i < S.P * 32 → hs i = S.hf i) (cn : Int32) : hdW S hs nm cn = by2 (nI (ndL S nm S.P).length) ++ (hdM G.H (fun j => (ndL S nm S.P).getD j 0) (ndL S nm S.P).length ++ by2 cn) := by
  unfold hdW
  rw [M.ndH I R S.P (Nat.le_refl _), ndL_len]
  congr 3
  exact (cnt_BH I (nmd nm)).symm
/-- what a list names -/
theorem nms_in {PC : Nat → Nat} {nm : Nat → Int32} {x : Nat} : ∀ L : List Nat, nmd (nms PC nm L) x = true ↔ (nmd nm x = true ∨ ∃ c, c ∈ L ∧ PC c = x)
  | [] => ⟨Or.inl, fun z => z.elim id (fun ⟨c, z1, _⟩ => absurd z1 List.not_mem_nil)⟩
  | c :: t => by
    show nmd (nms PC (upd nm (PC c) 1) t) x = true ↔ _
    rw [nms_in t]
    have e : nmd (upd nm (PC c) 1) x = true ↔ (nmd nm x = true ∨ PC c = x) := by
      rw [nmd_iff, nmd_iff]
      by_cases z : x = PC c
      · rw [z, upd_eq]
        exact ⟨fun _ => Or.inr rfl, fun _ => by decide⟩
      · rw [upd_ne _ z]
        exact ⟨Or.inl, fun y => y.elim id (fun y => absurd y.symm z)⟩
    rw [e]
    constructor
    · rintro ((z | z) | ⟨d, z1, z2⟩)
      · exact Or.inl z
      · exact Or.inr ⟨c, List.mem_cons_self .., z⟩
      · exact Or.inr ⟨d, List.mem_cons_of_mem _ z1, z2⟩
    · rintro (z | ⟨d, z1, z2⟩)
      · exact Or.inl (Or.inl z)
      · rcases List.mem_cons.mp z1 with y | y
        · rw [y] at z2; exact Or.inl (Or.inr z2)
        · exact Or.inr ⟨d, y, z2⟩
theorem nmd_z {z0 : Nat → Int32} (hz : ∀ j, j < 500 → z0 j = 0) {x : Nat} (hx : x < 500) : ¬ nmd z0 x = true := fun h => nmd_iff.mp h (hz x hx)
/-- what a call names -/
theorem ndL_call {S : Stk} (I : sInv S) {PC : Nat → Nat} {z0 : Nat → Int32} {ac : Nat} {NL : List Nat} (hz : ∀ j, j < 500 → z0 j = 0) (ha : PC ac < S.P) (hn : ∀ c, c ∈ NL → PC c < S.P) {x : Nat} : x ∈ ndL S (nms PC (upd z0 (PC ac) 1) NL) S.P ↔ (x = PC ac ∨ ∃ c, c ∈ NL ∧ x = PC c) := by
  have hP := I.hP
  rw [ndL_in I, nms_in]
  have e : nmd (upd z0 (PC ac) 1) x = true ↔ (nmd z0 x = true ∨ x = PC ac) := by
    rw [nmd_iff, nmd_iff]
    by_cases z : x = PC ac
    · rw [z, upd_eq]
      exact ⟨fun _ => Or.inr rfl, fun _ => by decide⟩
    · rw [upd_ne _ z]
      exact ⟨Or.inl, fun y => y.elim id (fun y => absurd y z)⟩
  rw [e]
  constructor
  · rintro ⟨h1, (h2 | h2) | ⟨c, h2, h3⟩⟩
    · exact absurd h2 (nmd_z hz (by omega))
    · exact Or.inl h2
    · exact Or.inr ⟨c, h2, h3.symm⟩
  · rintro (h | ⟨c, h2, h3⟩)
    · exact ⟨by rw [h]; exact ha, Or.inl (Or.inr h)⟩
    · exact ⟨by rw [h3]; exact hn c h2, Or.inr ⟨c, h2, h3.symm⟩⟩
/-- what a record names -/
theorem ndL_rec {S : Stk} (I : sInv S) {PC : Nat → Nat} {z0 : Nat → Int32} {C : List (List (List Int32 ⊕ Nat))} (hz : ∀ j, j < 500 → z0 j = 0) (hn : ∀ c, c ∈ tkC C.flatten → PC c < S.P) {x : Nat} : x ∈ ndL S (chM PC z0 C) S.P ↔ nmF PC C.flatten x := by
  have hP := I.hP
  unfold chM
  rw [ndL_in I, nms_in]
  constructor
  · rintro ⟨h1, h2 | ⟨c, h2, h3⟩⟩
    · exact absurd h2 (nmd_z hz (by omega))
    · exact ⟨c, h2, h3⟩
  · rintro ⟨c, h2, h3⟩
    exact ⟨by rw [← h3]; exact hn c h2, Or.inr ⟨c, h2, h3⟩⟩
theorem ndL_add {S : Stk} (I : sInv S) {z0 : Nat → Int32} (hz : ∀ j, j < 500 → z0 j = 0) : ndL S z0 S.P = [] := by
  cases h : ndL S z0 S.P with
  | nil => rfl
  | cons x t =>
    have h1 : x ∈ ndL S z0 S.P := by rw [h]; exact List.mem_cons_self ..
    have h2 := (ndL_in I).mp h1
    have hP := I.hP
    exact absurd h2.2 (nmd_z hz (by omega))
theorem mrp.callE {S : Stk} {Z : Mda} {G : Gr} (M : mrp S Z G) (I : sInv S) {hs nm pl tf : Nat → Int32} {PC : Nat → Nat} {ac tn : Nat} {NL : List Nat} (R : ∀ i, i < S.P * 32 → hs i = S.hf i) : hdW S hs nm (nI 1) ++ cwW S pl PC ac (nI NL.length) NL tf tn = ((((([] : List Int32) ++ (by2 (nI (ndL S nm S.P).length) ++ (hdM G.H (fun i => (ndL S nm S.P).getD i 0) (ndL S nm S.P).length ++ by2 (nI 1)))) ++ [by1 1]) ++ rfW S pl (PC ac) ac) ++ [by1 (nI NL.length)]) ++ rfs S pl PC NL ++ nmW tf tn := by
  rw [M.hdE I R]
  unfold cwW cwH
  simp only [List.append_assoc, List.nil_append]
theorem bv_s24 (v : BitVec 32) : ((v >>> 16).sshiftRight 8).signExtend 8 = (v.sshiftRight 24).signExtend 8 := by
  apply BitVec.eq_of_getLsbD_eq
  intro i hi
  rcases (show i = 0 ∨ i = 1 ∨ i = 2 ∨ i = 3 ∨ i = 4 ∨ i = 5 ∨ i = 6 ∨ i = 7 by omega) with rfl | rfl | rfl | rfl | rfl | rfl | rfl | rfl <;> (simp only [BitVec.getLsbD_signExtend, BitVec.getLsbD_sshiftRight, BitVec.getLsbD_ushiftRight]; simp)
theorem bv_s16 (v : BitVec 32) : (v >>> 16).signExtend 8 = (v.sshiftRight 16).signExtend 8 := by
  apply BitVec.eq_of_getLsbD_eq
  intro i hi
  rcases (show i = 0 ∨ i = 1 ∨ i = 2 ∨ i = 3 ∨ i = 4 ∨ i = 5 ∨ i = 6 ∨ i = 7 by omega) with rfl | rfl | rfl | rfl | rfl | rfl | rfl | rfl <;> (simp only [BitVec.getLsbD_signExtend, BitVec.getLsbD_sshiftRight, BitVec.getLsbD_ushiftRight]; simp)

/-! 99zzzcb.begin.lean.txt -/
/-- S is the beginning of S₇ -/
def sbS (S S₇ : Stk) : Prop := S.P ≤ S₇.P ∧ (∀ i, i ≤ S.P → S₇.FR i = S.FR i ∧ S₇.FC i = S.FC i ∧ S₇.FD i = S.FD i) ∧ (∀ i, i < S.FR S.P → S₇.f i = S.f i) ∧ (∀ c, c < S.FC S.P → S₇.CA c = S.CA c ∧ S₇.CF c = S.CF c ∧ S₇.CL c = S.CL c) ∧ (∀ i, i < S.FD S.P → S₇.DP i = S.DP i) ∧ (∀ i, i < S.P * 32 → S₇.hf i = S.hf i)
theorem sbS.rf (S : Stk) : sbS S S := ⟨Nat.le_refl _, fun _ _ => ⟨rfl, rfl, rfl⟩, fun _ _ => rfl, fun _ _ => ⟨rfl, rfl, rfl⟩, fun _ _ => rfl, fun _ _ => rfl⟩
theorem sbS.wf {S : Stk} {g : Nat → Int32} (hb : ∀ i, i < S.FR S.P → S.f i = g i) : sbS S (S.wf g) := ⟨Nat.le_refl _, fun _ _ => ⟨rfl, rfl, rfl⟩, fun i z => (hb i z).symm, fun _ _ => ⟨rfl, rfl, rfl⟩, fun _ _ => rfl, fun _ _ => rfl⟩
theorem sbS.trans {S S₇ S'' : Stk} (h : sbS S S₇) (h' : sbS S₇ S'') (I₇ : sInv S₇) : sbS S S'' := by
  obtain ⟨a1, a2, a3, a4, a5, a6⟩ := h
  obtain ⟨b1, b2, b3, b4, b5, b6⟩ := h'
  have e := a2 S.P (Nat.le_refl _)
  have m1 := I₇.frm (i := S.P) (k := S₇.P) a1 (Nat.le_refl _)
  have m2 := I₇.fcm (i := S.P) (k := S₇.P) a1 (Nat.le_refl _)
  have m3 := I₇.fdm (i := S.P) (k := S₇.P) a1 (Nat.le_refl _)
  refine ⟨Nat.le_trans a1 b1, fun i z => ?_, fun i z => ?_, fun c z => ?_, fun i z => ?_, fun i z => ?_⟩
  · have x := b2 i (by omega)
    have y := a2 i z
    exact ⟨x.1.trans y.1, x.2.1.trans y.2.1, x.2.2.trans y.2.2⟩
  · exact (b3 i (by omega)).trans (a3 i z)
  · have x := b4 c (by omega)
    have y := a4 c z
    exact ⟨x.1.trans y.1, x.2.1.trans y.2.1, x.2.2.trans y.2.2⟩
  · exact (b5 i (by omega)).trans (a5 i z)
  · exact (b6 i (by omega)).trans (a6 i z)
theorem sbS.nd {S S₇ : Stk} (h : sbS S S₇) (I : sInv S) {p : Nat} (hp : p < S.P) : S₇.nd p = S.nd p := by
  have m1 := I.frm (i := p + 1) (k := S.P) (by omega) (Nat.le_refl _)
  have l1 := I.le1 hp
  show tw S₇.f (S₇.FR p) = tw S.f (S.FR p)
  rw [(h.2.1 p (by omega)).1]
  exact (tw_cg (n := S.FR (p + 1)) (fun i z => (h.2.2.1 i (by omega)).symm) (by omega)).symm
theorem sbS.st {S S₇ : Stk} (h : sbS S S₇) (I : sInv S) {p : Nat} (hp : p < S.P) : S₇.st p = S.st p := by
  have e := h.nd I hp
  unfold Stk.st
  rw [e, (h.2.1 p (by omega)).1]
theorem sbS.nT {S S₇ : Stk} (h : sbS S S₇) (I : sInv S) {p : Nat} (hp : p < S.P) : S₇.nT p = S.nT p := by
  have m1 := I.frm (i := p + 1) (k := S.P) (by omega) (Nat.le_refl _)
  have l1 := I.le1 hp
  show tw S₇.f (S₇.st p) = tw S.f (S.st p)
  rw [h.st I hp]
  exact (tw_cg (n := S.FR (p + 1)) (fun i z => (h.2.2.1 i (by omega)).symm) (by unfold Stk.st; omega)).symm
theorem sbS.dp {S S₇ : Stk} (h : sbS S S₇) (I : sInv S) {p k : Nat} (hp : p < S.P) (hk : k < S.nd p) : S₇.dp p k = S.dp p k := by
  have m1 := I.fdm (i := p + 1) (k := S.P) (by omega) (Nat.le_refl _)
  have l1 := (I.pi p hp).fd
  show S₇.DP (S₇.FD p + k) = S.DP (S.FD p + k)
  rw [(h.2.1 p (by omega)).2.2]
  exact h.2.2.2.2.1 _ (by omega)
theorem mbL_nd (S : Stk) (mw : Nat → Int64) : ∀ i, mbL S mw i = ndL S (fun p => if bt mw p = true then 1 else 0) i
  | 0 => rfl
  | i + 1 => by
    have e : nmb S (fun p => if bt mw p = true then 1 else 0) i = true ↔ bt mw (S.BH i) = true := by
      unfold nmb
      rw [nmd_iff]
      by_cases z : bt mw (S.BH i) = true
      · rw [if_pos z]; exact ⟨fun _ => z, fun _ => by decide⟩
      · rw [if_neg z]; exact ⟨fun y => absurd rfl y, fun y => absurd y z⟩
    by_cases z : bt mw (S.BH i) = true
    · rw [mbL_yes z, ndL_yes (e.mpr z), mbL_nd S mw i]
    · rw [mbL_no z, ndL_no (fun y => z (e.mp y)), mbL_nd S mw i]
theorem mbL_in {S : Stk} (I : sInv S) {mw : Nat → Int64} {x : Nat} : x ∈ mbL S mw S.P ↔ (x < S.P ∧ bt mw x = true) := by
  rw [mbL_nd, ndL_in I, nmd_iff]
  refine and_congr Iff.rfl ?_
  by_cases z : bt mw x = true
  · rw [if_pos z]; exact ⟨fun _ => z, fun _ => by decide⟩
  · rw [if_neg z]; exact ⟨fun y => absurd rfl y, fun y => absurd y z⟩
/-- by rising hash, in the stock's own bytes -/
def hfG (hf : Nat → Int32) (a b : Nat) : Prop := sq hf (b * 32) 32 < sq hf (a * 32) 32
theorem ndL_srt {S : Stk} (I : sInv S) (nm : Nat → Int32) : srt (hfG S.hf) (ndL S nm S.P) := by
  intro a b hab hb
  obtain ⟨ka, h1, h2, h3⟩ := ndL_ix (S := S) (nm := nm) (i := S.P) (j := a) (by omega)
  obtain ⟨kb, h4, h5, h6⟩ := ndL_ix (S := S) (nm := nm) (i := S.P) (j := b) hb
  rw [← h3, ← h6, ndL_at h2 h1, ndL_at h5 h4]
  refine I.up ka kb ?_ h4
  rcases Nat.lt_or_ge ka kb with z | z
  · exact z
  · have := cnt_mono (b := nmb S nm) z
    omega
/-- the members of a set stand in the same order in a longer stock -/
theorem sbS.mb {S S₇ : Stk} (h : sbS S S₇) (I : sInv S) (I₇ : sInv S₇) {mw : Nat → Int64} (hb : ∀ p, p < S₇.P → bt mw p = true → p < S.P) : mbL S₇ mw S₇.P = mbL S mw S.P := by
  refine srt.uniq (R := hfG S₇.hf) (fun a => List.lt_irrefl _) (fun a b d h1 h2 => List.lt_trans h2 h1) _ _ ?_ ?_ (fun x => ?_)
  · rw [mbL_nd]; exact ndL_srt I₇ _
  · have h1 : srt (hfG S.hf) (mbL S mw S.P) := by rw [mbL_nd]; exact ndL_srt I _
    intro a b hab hb2
    have h2 := h1 a b hab hb2
    have e : ∀ x, x ∈ mbL S mw S.P → sq S₇.hf (x * 32) 32 = sq S.hf (x * 32) 32 := fun x hx => by
      have h3 := ((mbL_in I).mp hx).1
      exact sq_congr 32 _ _ (fun k hk => h.2.2.2.2.2 _ (by omega))
    unfold hfG at h2 ⊢
    rw [e _ (getD_mem (show a < _ by omega)), e _ (getD_mem hb2)]
    exact h2
  · rw [mbL_in I, mbL_in I₇]
    exact ⟨fun z => ⟨hb x z.1 z.2, z.2⟩, fun z => ⟨Nat.lt_of_lt_of_le z.1 h.1, z.2⟩⟩
theorem allU_mb (S : Stk) (mw : Nat → Int64) : ∀ i, allU S mw i = ((mbL S mw i).map (fun p => seqL (S.FC p) (S.nT p))).flatten
  | 0 => rfl
  | i + 1 => by
    show allU S mw i ++ (if bt mw (S.BH i) = true then seqL (S.FC (S.BH i)) (S.nT (S.BH i)) else []) = _
    by_cases z : bt mw (S.BH i) = true
    · rw [if_pos z, mbL_yes z, List.map_append, List.flatten_append, allU_mb S mw i]
      show _ ++ _ = _ ++ [seqL (S.FC (S.BH i)) (S.nT (S.BH i))].flatten
      rw [List.flatten_singleton]
    · rw [if_neg z, List.append_nil, mbL_no z, allU_mb S mw i]
theorem map_cg {A : Type} {f g : Nat → A} : ∀ (L : List Nat), (∀ x, x ∈ L → f x = g x) → L.map f = L.map g
  | [], _ => rfl
  | x :: t, h => by
    show f x :: t.map f = g x :: t.map g
    rw [h x (List.mem_cons_self ..), map_cg t (fun y z => h y (List.mem_cons_of_mem _ z))]
theorem sbS.all {S S₇ : Stk} (h : sbS S S₇) (I : sInv S) (I₇ : sInv S₇) {mw : Nat → Int64} (hb : ∀ p, p < S₇.P → bt mw p = true → p < S.P) : allU S₇ mw S₇.P = allU S mw S.P := by
  rw [allU_mb, allU_mb, h.mb I I₇ hb]
  congr 1
  refine map_cg _ (fun p hp => ?_)
  have h1 := ((mbL_in I).mp hp).1
  rw [h.nT I h1, (h.2.1 p (by omega)).2.1]
theorem sb_hf {S S1 : Stk} (I : sInv S) (I1 : sInv S1) (hP : S.P ≤ S1.P) (hR : ∀ i, i ≤ S.P → S1.FR i = S.FR i) (hf : ∀ i, i < S.FR S.P → S1.f i = S.f i) : ∀ i, i < S.P * 32 → S1.hf i = S.hf i := by
  intro i hi
  have hp : i / 32 < S.P := by omega
  have hk : i % 32 < 32 := Nat.mod_lt _ (by decide)
  have h1 := (I1.pi (i / 32) (by omega)).hs (i % 32) hk
  have h2 := (I.pi (i / 32) hp).hs (i % 32) hk
  rw [show i / 32 * 32 + i % 32 = i by omega] at h1 h2
  rw [h1, h2, hR _ (by omega), hR _ (by omega)]
  have m1 := I.frm (i := i / 32 + 1) (k := S.P) (by omega) (Nat.le_refl _)
  exact sh_outb_congr (dg_congr (fun k z => hf _ (by omega))) hk
theorem stl.sb {S S1 : Stk} {bf hs : Nat → Int32} {en : Nat} {mw : Nat → Int64} {r : Int32} (I : sInv S) (I1 : sInv S1) (hb : ∀ i, i < S.FR S.P → S.f i = bf i) (h : stl S bf hs en mw r S1) : sbS S (S1.wf bf) := by
  have old : S1 = S → sbS S (S1.wf bf) := fun e => by rw [e]; exact sbS.wf hb
  rcases h with ⟨_, h1, _⟩ | ⟨_, h1, _⟩ | ⟨h1, _⟩ | ⟨_, _, _, h2⟩
  · exact old h1
  · exact old h1
  · exact old h1
  · rcases h2 with ⟨_, h3, _⟩ | ⟨_, h3, _⟩ | ⟨CF1, hC, _, h4⟩
    · exact old h3
    · exact old h3
    · rcases h4 with ⟨_, h5, _⟩ | ⟨_, _, h7⟩
      · exact old h5
      · obtain ⟨a1, a2, a3, a4, a5, a6, a7, a8, a9, a10, a11, e, _⟩ := h7
        subst e
        have hR : ∀ i, i ≤ S.P → upN S.FR (S.P + 1) en i = S.FR i := fun i z => upN_ne _ (by omega)
        refine ⟨Nat.le_succ _, fun i z => ⟨hR i z, upN_ne _ (by omega), upN_ne _ (by omega)⟩, fun i z => (hb i z).symm, fun c z => ⟨caX_lt z, hC.1 c z, clX_lt z⟩, fun i z => if_pos z, ?_⟩
        exact sb_hf I I1 (Nat.le_succ _) hR (fun i z => (hb i z).symm)
theorem sbS.agr {S S₇ : Stk} (h : sbS S S₇) (I : sInv S) {p cc : Nat} (hp : p < S.P) (hc : cc ≤ S.FC (p + 1)) (hc2 : S.FC p ≤ cc) : Agr S.f S₇.f (S.dp p) (S₇.dp p) S.FC S₇.FC S.CA S₇.CA S.CF S₇.CF S.CL S₇.CL (S.FR (p + 1)) p (S.nd p) cc := by
  have m1 := I.frm (i := p + 1) (k := S.P) (by omega) (Nat.le_refl _)
  have m2 := I.fcm (i := p + 1) (k := S.P) (by omega) (Nat.le_refl _)
  refine ⟨fun i z => (h.2.2.1 i (by omega)).symm, fun i z => (h.dp I hp z).symm, fun i z => ((I.pi p hp).dep i z).1, fun i z => ((h.2.1 i (by omega)).2.1).symm, fun i z => ((h.2.2.2.1 i (by omega)).1).symm, fun i z => ((h.2.2.2.1 i (by omega)).2.1).symm, fun i z => ((h.2.2.2.1 i (by omega)).2.2).symm, fun i z => ?_, fun i z => Nat.le_trans (I.fcm (i := i + 1) (k := p) (by omega) (by omega)) hc2⟩
  obtain ⟨hq, j, hj, e⟩ := I.pcs (c := i) (by omega)
  have w := (I.chg hq hj).W
  rw [← e] at w
  have m3 : S.pc i ≤ p := by
    rcases Nat.lt_or_ge p (S.pc i) with y | y
    · have := I.fcm (i := p + 1) (k := S.pc i) y (by omega)
      omega
    · exact y
  have m4 := I.frm (i := S.pc i + 1) (k := p + 1) (by omega) (by omega)
  exact chW.mono m4 w

/-! 99zzzcc.longer.lean.txt -/
theorem gL_le9 (re : Nat → Int64) (n : Nat) : ∀ (k : Nat) (go : Nat → Int32), (gL re n k go).length ≤ k
  | 0, go => by rw [(gL_zero re n go).1]; exact Nat.le_refl _
  | k + 1, go => by
    cases h : lfO (frB re go n) n with
    | none => rw [(gL_none h (Nat.succ_pos _)).1]; exact Nat.zero_le _
    | some a =>
      rw [(gL_some h (Nat.succ_pos _)).1]
      have := gL_le9 re n k (upd go a 1)
      show (gL re n (k + 1 - 1) (upd go a 1)).length + 1 ≤ k + 1
      rw [Nat.add_sub_cancel]; omega
theorem gL_lt9 (re : Nat → Int64) (n : Nat) : ∀ (k : Nat) (go : Nat → Int32), ∀ x, x ∈ gL re n k go → x < n
  | 0, go, x, hx => by rw [(gL_zero re n go).1] at hx; cases hx
  | k + 1, go, x, hx => by
    cases h : lfO (frB re go n) n with
    | none => rw [(gL_none h (Nat.succ_pos _)).1] at hx; cases hx
    | some a =>
      rw [(gL_some h (Nat.succ_pos _)).1] at hx
      have hx : x ∈ a :: gL re n k (upd go a 1) := hx
      rcases List.mem_cons.mp hx with z | z
      · rw [z]; exact (lfO_spec h).1
      · exact gL_lt9 re n k (upd go a 1) x z
theorem filL_len9 {S : Stk} (I : sInv S) (hb : ∀ j, j < S.FR S.P → b8 (S.f j) = 0 → S.f j = 0) (mw : Nat → Int64) : (filL S mw).length ≤ 200 ∧ (namL S mw).length ≤ 16800 := by
  have h := I.fitA hb mw (Nat.le_refl S.P)
  refine ⟨Nat.le_trans (List.length_filter_le _ _) h.1, ?_⟩
  have h2 : (namL S mw).length ≤ 16750 := h.2
  omega
/-- lines and leanings of the beginning -/
def sbL (S S₇ : Stk) : Prop := (∀ q, q < S.NLp S.P → q < S₇.NLp S₇.P ∧ S₇.ll q = S.ll q ∧ S₇.lc q = S.lc q ∧ S₇.lp q = S.lp q ∧ S₇.lu q = S.lu q ∧ S₇.ld q = S.ld q) ∧ (∀ p, p < S.P → ∀ n, n < 512 → btr S₇.lo (p * 8) n = btr S.lo (p * 8) n)
theorem sInv.cW {S : Stk} (I : sInv S) {c : Nat} (hc : c < S.FC S.P) : chW S.f (S.FR S.P) (S.CA c) := by
  obtain ⟨hq, j, hj, e⟩ := I.pcs (c := c) hc
  have w := (I.chg hq hj).W
  rw [← e] at w
  exact chW.mono (I.frm (i := S.pc c + 1) (k := S.P) (by omega) (Nat.le_refl _)) w
theorem sbS.f0 {S S₇ : Stk} (h : sbS S S₇) (I : sInv S) {c : Nat} (hc : c < S.FC S.P) : S₇.f (S₇.CA c) = S.f (S.CA c) := by
  have W := (I.cW hc).1
  rw [(h.2.2.2.1 c hc).1]
  exact h.2.2.1 _ (by omega)
theorem sbS.nm {S S₇ : Stk} (h : sbS S S₇) (I : sInv S) {c : Nat} (hc : c < S.FC S.P) : isNm S₇.f (S₇.CA c) ↔ isNm S.f (S.CA c) := by
  have W := I.cW hc
  have W' := chW_cg (g := S₇.f) (fun i z => (h.2.2.1 i z).symm) W
  rw [(h.2.2.2.1 c hc).1]
  exact ⟨fun z => isNm_cg (fun i y => h.2.2.1 i y) W' z, fun z => isNm_cg (fun i y => (h.2.2.1 i y).symm) W z⟩
theorem sbS.nmBe {S S₇ : Stk} (h : sbS S S₇) (I : sInv S) {c : Nat} (hc : c < S.FC S.P) : nmB S₇ c = nmB S c := Bool.eq_iff_iff.mpr (nmB_iff.trans ((h.nm I hc).trans nmB_iff.symm))
theorem sbS.agrR {S S₇ : Stk} (h : sbS S S₇) (I : sInv S) {p cc : Nat} (hp : p < S.P) (hc : cc ≤ S.FC (p + 1)) (hc2 : S.FC p ≤ cc) : Agr S₇.f S.f (S₇.dp p) (S.dp p) S₇.FC S.FC S₇.CA S.CA S₇.CF S.CF S₇.CL S.CL (S.FR (p + 1)) p (S.nd p) cc := by
  have A := h.agr I hp hc hc2
  refine ⟨fun i z => (A.1 i z).symm, fun i z => (A.2.1 i z).symm, fun i z => ?_, fun i z => (A.hC i z).symm, fun i z => (A.hA i z).symm, fun i z => (A.hF i z).symm, fun i z => (A.hL i z).symm, fun i z => ?_, fun i z => ?_⟩
  · rw [← A.hD i z]; exact A.hP i z
  · rw [← A.hA i z]; exact chW_cg A.hf (A.hW i z)
  · rw [← A.hC (i + 1) (by omega)]; exact A.hM i z
theorem sbS.cn {S S₇ : Stk} (h : sbS S S₇) (I : sInv S) {p cc k x : Nat} (hp : p < S.P) (hc : cc ≤ S.FC (p + 1)) (hc2 : S.FC p ≤ cc) (hk : k + 3 < S.FR (p + 1)) : cnR S₇.f (S₇.dp p) S₇.FC p (S₇.nd p) cc k x ↔ cnR S.f (S.dp p) S.FC p (S.nd p) cc k x := by
  rw [h.nd I hp]
  exact ⟨fun z => ((h.agrR I hp hc hc2).cn hk z).1, fun z => ((h.agr I hp hc hc2).cn hk z).1⟩
theorem sInv.fc1 {S : Stk} (I : sInv S) {p j : Nat} (hp : p < S.P) (hj : j < S.nT p) : S.FC p + j < S.FC (p + 1) ∧ S.FC (p + 1) ≤ S.FC S.P ∧ S.FR (p + 1) ≤ S.FR S.P ∧ chW S.f (S.FR (p + 1)) (S.CA (S.FC p + j)) := by
  have e := (I.pi p hp).fc
  exact ⟨by omega, I.fcm (i := p + 1) (k := S.P) (by omega) (Nat.le_refl _), I.frm (i := p + 1) (k := S.P) (by omega) (Nat.le_refl _), (I.chg hp hj).W⟩
theorem sbS.ovXe {S S₇ : Stk} (h : sbS S S₇) (I : sInv S) {p x : Nat} (hp : p < S.P) : ovX S₇ p x ↔ ovX S p x := by
  have hF := (h.2.1 p (by omega)).2.1
  have hT := h.nT I hp
  have key : ∀ j, j < S.nT p → (S₇.f (S₇.CA (S₇.FC p + j)) = 1 ∧ ovJ S₇ p j (b8 (S₇.f (S₇.CA (S₇.FC p + j) + 5))) x ↔ S.f (S.CA (S.FC p + j)) = 1 ∧ ovJ S p j (b8 (S.f (S.CA (S.FC p + j) + 5))) x) := fun j hj => by
    obtain ⟨q1, q2, q3, W⟩ := I.fc1 hp hj
    have e1 : S₇.CA (S₇.FC p + j) = S.CA (S.FC p + j) := by rw [hF]; exact (h.2.2.2.1 _ (by omega)).1
    have w1 := W.1
    have e2 : S₇.f (S.CA (S.FC p + j)) = S.f (S.CA (S.FC p + j)) := h.2.2.1 _ (by omega)
    have e3 : S₇.f (S.CA (S.FC p + j) + 5) = S.f (S.CA (S.FC p + j) + 5) := h.2.2.1 _ (by omega)
    rw [e1, e2, e3]
    refine and_congr_right (fun z => ?_)
    have w2 := W.2.1 z
    unfold ovJ ovK
    rw [e1, hF]
    exact ⟨fun ⟨k, y1, y2⟩ => ⟨k, y1, (h.cn I hp (by omega) (by omega) (by omega)).mp y2⟩, fun ⟨k, y1, y2⟩ => ⟨k, y1, (h.cn I hp (by omega) (by omega) (by omega)).mpr y2⟩⟩
  unfold ovX ovN
  rw [hT]
  exact ⟨fun ⟨j, y1, y2⟩ => ⟨j, y1, (key j y1).mp y2⟩, fun ⟨j, y1, y2⟩ => ⟨j, y1, (key j y1).mpr y2⟩⟩
theorem sbS.ovSe {S S₇ : Stk} (h : sbS S S₇) (I : sInv S) {mw : Nat → Int64} {x : Nat} (hb : ∀ p, p < S₇.P → bt mw p = true → p < S.P) : ovS S₇ mw S₇.P x ↔ ovS S mw S.P x := ⟨fun ⟨p, h1, h2, h3⟩ => ⟨p, hb p h1 h2, h2, (h.ovXe I (hb p h1 h2)).mp h3⟩, fun ⟨p, h1, h2, h3⟩ => ⟨p, Nat.lt_of_lt_of_le h1 h.1, h2, (h.ovXe I h1).mpr h3⟩⟩
theorem sbS.thBe {S S₇ : Stk} (h : sbS S S₇) (I : sInv S) {mw : Nat → Int64} {c : Nat} (hb : ∀ p, p < S₇.P → bt mw p = true → p < S.P) (hc : c < S.FC S.P) : thB S₇ mw c = thB S mw c := by
  unfold thB
  rw [h.nmBe I hc, show ovB S₇ mw c = ovB S mw c from Bool.eq_iff_iff.mpr (ovB_iff.trans ((h.ovSe I hb).trans ovB_iff.symm))]
theorem sbS.nam {S S₇ : Stk} (h : sbS S S₇) (I : sInv S) (I₇ : sInv S₇) {mw : Nat → Int64} (hb : ∀ p, p < S₇.P → bt mw p = true → p < S.P) : namL S₇ mw = namL S mw := by
  unfold namL nmA
  rw [h.all I I₇ hb]
  exact List.filter_congr (fun c hc => h.thBe I hb (I.allm (Nat.le_refl _) hc))
theorem sInv.namm {S : Stk} (I : sInv S) {mw : Nat → Int64} {c : Nat} (hc : c ∈ namL S mw) : c < S.FC S.P := I.allm (Nat.le_refl _) (List.mem_filter.mp hc).1
theorem sbS.nOfe {S S₇ : Stk} (h : sbS S S₇) (I : sInv S) {mw : Nat → Int64} (y : Nat) : nOf S₇ y (namL S mw) = nOf S y (namL S mw) := by
  unfold nOf numL
  rw [List.filter_congr (fun c hc => by rw [(h.2.2.2.1 c (I.namm hc)).2.1])]
theorem sbS.fil {S S₇ : Stk} (h : sbS S S₇) (I : sInv S) (I₇ : sInv S₇) {mw : Nat → Int64} (hb : ∀ p, p < S₇.P → bt mw p = true → p < S.P) : filL S₇ mw = filL S mw := by
  have e : flA S₇ mw S₇.P = flA S mw S.P := by
    unfold flA
    rw [h.all I I₇ hb, List.filter_congr (q := adB S) (fun c hc => by unfold adB; rw [h.f0 I (I.allm (Nat.le_refl _) hc)])]
    exact map_cg _ (fun c hc => (h.2.2.2.1 c (I.allm (Nat.le_refl _) (List.mem_filter.mp hc).1)).2.1)
  unfold filL
  rw [e, h.nam I I₇ hb]
  exact List.filter_congr (fun y _ => by unfold hasN; rw [h.nOfe I])
/-- a view that is loaded stays right when the stock grows -/
theorem sbS.vw {S S₇ : Stk} (h : sbS S S₇) (I : sInv S) (I₇ : sInv S₇) {mw : Nat → Int64} (hb : ∀ p, p < S₇.P → bt mw p = true → p < S.P) {vf vo vn : Nat → Int32} {ft nt : Value} (V : vwQ S mw vf vo vn ft nt) : vwQ S₇ mw vf vo vn ft nt := by
  unfold vwQ at V ⊢
  rw [h.nam I I₇ hb, h.fil I I₇ hb]
  exact ⟨V.1, fun y hy => by rw [h.nOfe I]; exact V.2.1 y hy, V.2.2⟩
theorem fm_cg {f g : Nat → List Nat} : ∀ (L : List Nat), (∀ x, x ∈ L → f x = g x) → L.flatMap f = L.flatMap g
  | [], _ => rfl
  | x :: t, h => by rw [List.flatMap_cons, List.flatMap_cons, h x (List.mem_cons_self ..), fm_cg t (fun y z => h y (List.mem_cons_of_mem _ z))]
theorem sbS.nLne {S S₇ : Stk} (h : sbS S S₇) (I : sInv S) {c : Nat} (hc : c < S.FC S.P) (h2 : S.f (S.CA c) = 2) : nLn S₇ c = nLn S c := by
  have W := I.cW hc
  have w := W.2.2.1 h2
  unfold nLn
  rw [(h.2.2.2.1 c hc).1, ← lnAt_cg (g := S₇.f) (fun i z => (h.2.2.1 i z).symm) W.1 w.2.1]
  exact (tw_cg (fun i z => (h.2.2.1 i z).symm) w.2.2.2).symm
theorem sbS.lcCe {S S₇ : Stk} (h : sbS S S₇) (I : sInv S) {y c : Nat} (hc : c < S.FC S.P) : lcC S₇ y c = lcC S y c := by
  have e : inB S₇ y c = inB S y c := by unfold inB; rw [h.f0 I hc, (h.2.2.2.1 c hc).2.1]
  unfold lcC
  rw [e]
  by_cases z : inB S y c = true
  · rw [if_pos z, if_pos z, (h.2.2.2.1 c hc).2.2, h.nLne I hc (inB_iff.mp z).1]
  · rw [if_neg z, if_neg z]
theorem sbS.row {S S₇ : Stk} (h : sbS S S₇) (I : sInv S) (I₇ : sInv S₇) {mw : Nat → Int64} (hb : ∀ p, p < S₇.P → bt mw p = true → p < S.P) (y : Nat) : rowL S₇ mw y = rowL S mw y := by
  unfold rowL
  rw [lnU_flat, lnU_flat, h.all I I₇ hb]
  exact fm_cg _ (fun c hc => h.lcCe I (I.allm (Nat.le_refl _) hc))
theorem sInv.rowm {S : Stk} (I : sInv S) {mw : Nat → Int64} {y x : Nat} (hx : x ∈ rowL S mw y) : ∃ c q, c < S.FC S.P ∧ S.f (S.CA c) = 2 ∧ q < nLn S c ∧ x = S.CL c + q ∧ x < S.NLp S.P ∧ bt mw (S.pc c) = true := by
  unfold rowL at hx
  rw [lnU_flat] at hx
  obtain ⟨c, h1, h2⟩ := List.mem_flatMap.mp hx
  have hc := I.allm (Nat.le_refl _) h1
  obtain ⟨a1, a2, a3, a4⟩ := lcC_mem.mp h2
  have e := I.ln1 hc a1
  exact ⟨c, x - S.CL c, hc, a1, by omega, by omega, by omega, (I.allu.mp h1).2⟩
theorem sbS.pc {S S₇ : Stk} (h : sbS S S₇) (I : sInv S) (I₇ : sInv S₇) {c : Nat} (hc : c < S.FC S.P) : S₇.pc c = S.pc c := by
  have m := I₇.fcm (i := S.P) (k := S₇.P) h.1 (Nat.le_refl _)
  have e0 := (h.2.1 S.P (Nat.le_refl _)).2.1
  obtain ⟨h1, j, hj, e⟩ := I.pcs hc
  obtain ⟨h1', j', hj', e'⟩ := I₇.pcs (c := c) (by omega)
  have hF := (h.2.1 (S.pc c) (by omega)).2.1
  exact (I₇.own1 h1' (Nat.lt_of_lt_of_le h1 h.1) hj' (k := j) (by rw [h.nT I h1]; exact hj) (by rw [hF]; omega)).1
theorem sbS.lob {S S₇ : Stk} (h : sbS S S₇) (I : sInv S) (I₇ : sInv S₇) : ∀ p, p < S.P → ∀ n, n < 512 → btr S₇.lo (p * 8) n = btr S.lo (p * 8) n := by
  intro p
  induction p using Nat.strongRecOn with
  | _ p ih =>
    intro hp n hn
    refine Bool.eq_iff_iff.mpr (((I₇.pi p (Nat.lt_of_lt_of_le hp h.1)).ln n hn).trans (Iff.trans ?_ ((I.pi p hp).ln n hn).symm))
    rw [h.nd I hp]
    have key : ∀ k, k < S.nd p → ((n = S₇.dp p k ∨ btr S₇.lo (S₇.dp p k * 8) n = true) ↔ (n = S.dp p k ∨ btr S.lo (S.dp p k * 8) n = true)) := fun k hk => by
      have hd := ((I.pi p hp).dep k hk).1
      rw [h.dp I hp hk, ih _ hd (by omega) n hn]
    exact ⟨fun ⟨k, y1, y2⟩ => ⟨k, y1, (key k y1).mp y2⟩, fun ⟨k, y1, y2⟩ => ⟨k, y1, (key k y1).mpr y2⟩⟩
theorem sbS.L {S S₇ : Stk} (h : sbS S S₇) (I : sInv S) (I₇ : sInv S₇) : sbL S S₇ := by
  refine ⟨fun l hl => ?_, h.lob I I₇⟩
  obtain ⟨hc, h2, z1, z2⟩ := I.lno hl
  generalize lcS S l = c at hc h2 z1 z2
  obtain ⟨q, rfl⟩ : ∃ q, l = S.CL c + q := ⟨l - S.CL c, by omega⟩
  have hq : q < nLn S c := by omega
  have m := I₇.fcm (i := S.P) (k := S₇.P) h.1 (Nat.le_refl _)
  have e0 := (h.2.1 S.P (Nat.le_refl _)).2.1
  have h2' : S₇.f (S₇.CA c) = 2 := by rw [h.f0 I hc]; exact h2
  have n1 := h.nLne I hc h2
  have eA := (h.2.2.2.1 c hc).1
  have eL := (h.2.2.2.1 c hc).2.2
  have P1 := h.pc I I₇ hc
  obtain ⟨A1, A2, A3, A4, A5, A6⟩ := I.lnf hc h2 hq
  have B := I₇.lnf (c := c) (q := q) (by omega) h2' (by omega)
  rw [P1, eL] at B
  obtain ⟨B1, B2, B3, B4, B5, B6⟩ := B
  obtain ⟨hp, j, hj, e⟩ := I.pcs hc
  obtain ⟨q1, q2, q3, W⟩ := I.fc1 hp hj
  rw [← e] at W q1
  have w := W.2.2.1 h2
  have AR := h.agr I hp (cc := c) (by omega) (by omega)
  have u1 := AR.up (k := S.CA c + 5) W.1 (fun z => by have := w.1 z; omega) A5
  have u2 := AR.up w.2.1 (fun z => by have := w.2.2.1 z; omega) A6
  have ep : plEnd S₇.f (S₇.CA c + 5) = plEnd S.f (S.CA c + 5) := by rw [eA]; exact (plEnd_cg AR.hf W.1).symm
  rw [ep, h.nd I hp] at B6
  rw [eA, h.nd I hp] at B5
  have hb : lnAt S₇.f (S₇.CA c) = lnAt S.f (S.CA c) := by rw [eA]; exact (lnAt_cg (fun i z => (h.2.2.1 i z).symm) (I.cW hc).1 ((I.cW hc).2.2.1 h2).2.1).symm
  have hr : ∀ k, k ≤ q → lnP S.f (lnAt S.f (S.CA c) + 2) k + 1 < S.FR S.P := fun k hk => by
    obtain ⟨_, _, t1, _, t3⟩ := I.lnl hc h2 (q := k) (by omega)
    omega
  have hP : lnP S.f (lnAt S.f (S.CA c) + 2) q = lnP S₇.f (lnAt S.f (S.CA c) + 2) q := lnP_cg (n := S.FR S.P) (fun i z => (h.2.2.1 i z).symm) (fun k hk => hr k (by omega))
  have L1 := (I.lnl hc h2 hq).2.1
  have L2 := (I₇.lnl (c := c) (q := q) (by omega) h2' (by omega)).2.1
  rw [hb, ← hP, ← tw_cg (n := S.FR S.P) (fun i z => (h.2.2.1 i z).symm) (hr q (Nat.le_refl _)), eL] at L2
  exact ⟨B4, L2.trans L1.symm, B1.trans A1.symm, B3.trans A3.symm, upR.uniq (I.nd5 hp) B5 u1, upR.uniq (I.nd5 hp) B6 u2⟩
theorem sbS.eEe {S S₇ : Stk} (h : sbS S S₇) (L : sbL S S₇) (I : sInv S) (I₇ : sInv S₇) {mw : Nat → Int64} {y x l m : Nat} (hx : x ∈ rowL S mw y) : eE S₇ x l m ↔ eE S x l m := by
  obtain ⟨c, q, hc, h2, hq, e, hl, _⟩ := I.rowm hx
  have m := I₇.fcm (i := S.P) (k := S₇.P) h.1 (Nat.le_refl _)
  have e0 := (h.2.1 S.P (Nat.le_refl _)).2.1
  obtain ⟨_, _, _, l4, l5, l6⟩ := L.1 x hl
  have n1 := h.nLne I hc h2
  have a1 := I.last hc h2 hq
  have a2 := I₇.last (c := c) (q := q) (by omega) (by rw [h.f0 I hc]; exact h2) (by omega)
  rw [n1, (h.2.2.2.1 c hc).2.2] at a2
  have a3 : lastL S₇ x ↔ lastL S x := by rw [e]; exact a2.trans a1.symm
  unfold eE eA eB
  rw [l4, l5, l6, a3]
theorem sbS.lr {S S₇ : Stk} (h : sbS S S₇) (I : sInv S) {p j k l : Nat} (hp : p < S.P) (hj : j < S.nT p) (hk : k + 5 < S.FR (p + 1)) : lrR S₇ p (S₇.FC p + j) k l ↔ lrR S p (S.FC p + j) k l := by
  obtain ⟨q1, q2, q3, W⟩ := I.fc1 hp hj
  have hF := (h.2.1 p (by omega)).2.1
  have ht : tw S₇.f (k + 4) = tw S.f (k + 4) := (tw_cg (n := S.FR (p + 1)) (fun i z => (h.2.2.1 i (by omega)).symm) (by omega)).symm
  have hx : ∀ x, cnR S.f (S.dp p) S.FC p (S.nd p) (S.FC p + j) k x → S₇.CL x = S.CL x := fun x z => by
    have := ((h.agr I hp (by omega) (by omega)).cn (by omega) z).2
    exact (h.2.2.2.1 x (by omega)).2.2
  unfold lrR
  rw [hF, ht]
  exact ⟨fun ⟨x, y1, y2⟩ => by
    have z := (h.cn I hp (by omega) (by omega) (by omega)).mp y1
    exact ⟨x, z, by rw [y2, hx x z]⟩, fun ⟨x, y1, y2⟩ => ⟨x, (h.cn I hp (by omega) (by omega) (by omega)).mpr y1, by rw [y2, hx x y1]⟩⟩
theorem sbS.oEe {S S₇ : Stk} (h : sbS S S₇) (I : sInv S) {y p j l m : Nat} (hp : p < S.P) (hj : j < S.nT p) : oE S₇ y p j l m ↔ oE S y p j l m := by
  obtain ⟨q1, q2, q3, W⟩ := I.fc1 hp hj
  have hF := (h.2.1 p (by omega)).2.1
  have hc : S.FC p + j < S.FC S.P := by omega
  have e1 : S₇.CA (S₇.FC p + j) = S.CA (S.FC p + j) := by rw [hF]; exact (h.2.2.2.1 _ hc).1
  have e2 : S₇.CF (S₇.FC p + j) = S.CF (S.FC p + j) := by rw [hF]; exact (h.2.2.2.1 _ hc).2.1
  have w1 := W.1
  have e3 : S₇.f (S.CA (S.FC p + j)) = S.f (S.CA (S.FC p + j)) := h.2.2.1 _ (by omega)
  unfold oE
  rw [e1, e2, e3]
  refine and_congr_right (fun z => ?_)
  have w2 := W.2.2.2.2 z
  rw [h.lr I hp hj (by omega), h.lr I hp hj (by omega)]
theorem sbS.dEe {S S₇ : Stk} (h : sbS S S₇) (I : sInv S) {y p j l : Nat} (hp : p < S.P) (hj : j < S.nT p) : dE S₇ y p j l ↔ dE S y p j l := by
  obtain ⟨q1, q2, q3, W⟩ := I.fc1 hp hj
  have hF := (h.2.1 p (by omega)).2.1
  have hc : S.FC p + j < S.FC S.P := by omega
  have e1 : S₇.CA (S₇.FC p + j) = S.CA (S.FC p + j) := by rw [hF]; exact (h.2.2.2.1 _ hc).1
  have e2 : S₇.CF (S₇.FC p + j) = S.CF (S.FC p + j) := by rw [hF]; exact (h.2.2.2.1 _ hc).2.1
  have w1 := W.1
  have e3 : S₇.f (S.CA (S.FC p + j)) = S.f (S.CA (S.FC p + j)) := h.2.2.1 _ (by omega)
  unfold dE
  rw [e1, e2, e3]
  refine and_congr_right (fun z => ?_)
  have w2 := W.2.2.2.1 z
  rw [h.lr I hp hj (by omega)]
theorem sbS.oSe {S S₇ : Stk} (h : sbS S S₇) (I : sInv S) {mw : Nat → Int64} (hb : ∀ p, p < S₇.P → bt mw p = true → p < S.P) {y l m : Nat} : oS S₇ mw y S₇.P l m ↔ oS S mw y S.P l m := by
  have key : ∀ p, p < S.P → (oN S₇ y p (S₇.nT p) l m ↔ oN S y p (S.nT p) l m) := fun p hp => by
    unfold oN
    rw [h.nT I hp]
    exact ⟨fun ⟨j, y1, y2⟩ => ⟨j, y1, (h.oEe I hp y1).mp y2⟩, fun ⟨j, y1, y2⟩ => ⟨j, y1, (h.oEe I hp y1).mpr y2⟩⟩
  exact ⟨fun ⟨p, h1, h2, h3⟩ => ⟨p, hb p h1 h2, h2, (key p (hb p h1 h2)).mp h3⟩, fun ⟨p, h1, h2, h3⟩ => ⟨p, Nat.lt_of_lt_of_le h1 h.1, h2, (key p h1).mpr h3⟩⟩
theorem sbS.dSe {S S₇ : Stk} (h : sbS S S₇) (I : sInv S) {mw : Nat → Int64} (hb : ∀ p, p < S₇.P → bt mw p = true → p < S.P) (y : Nat) : dS S₇ mw y S₇.P = dS S mw y S.P := by
  have key : ∀ l p, p < S.P → (dN S₇ y p (S₇.nT p) l ↔ dN S y p (S.nT p) l) := fun l p hp => by
    unfold dN
    rw [h.nT I hp]
    exact ⟨fun ⟨j, y1, y2⟩ => ⟨j, y1, (h.dEe I hp y1).mp y2⟩, fun ⟨j, y1, y2⟩ => ⟨j, y1, (h.dEe I hp y1).mpr y2⟩⟩
  exact funext (fun l => funext (fun q => propext ⟨fun ⟨h1, h2, h3⟩ => ⟨hb q h1 h2, h2, (key l q (hb q h1 h2)).mp h3⟩, fun ⟨h1, h2, h3⟩ => ⟨Nat.lt_of_lt_of_le h1 h.1, h2, (key l q h1).mpr h3⟩⟩))
theorem sbS.deGe {S S₇ : Stk} (h : sbS S S₇) (I : sInv S) {mw : Nat → Int64} (hb : ∀ p, p < S₇.P → bt mw p = true → p < S.P) (y : Nat) : deG S₇ mw y = deG S mw y := by
  funext l
  unfold deG
  rw [h.dSe I hb y]
theorem sbS.edGe {S S₇ : Stk} (h : sbS S S₇) (L : sbL S S₇) (I : sInv S) (I₇ : sInv S₇) {mw : Nat → Int64} (hb : ∀ p, p < S₇.P → bt mw p = true → p < S.P) (y : Nat) : edG S₇ mw y = edG S mw y := by
  funext a b
  unfold edG
  rw [h.row I I₇ hb y]
  refine propext (lE_iff (fun l m => ?_) a b)
  refine or_congr ?_ (h.oSe I hb)
  unfold iE
  exact ⟨fun ⟨k, y1, y2⟩ => ⟨k, y1, (h.eEe L I I₇ (getD_mem y1)).mp y2⟩, fun ⟨k, y1, y2⟩ => ⟨k, y1, (h.eEe L I I₇ (getD_mem y1)).mpr y2⟩⟩
theorem sbS.kin {S S₇ : Stk} (h : sbS S S₇) (L : sbL S S₇) (I : sInv S) (I₇ : sInv S₇) {p q : Nat} (hp : p < S.P) (hq : q < S.P) : kinR S₇.lo S₇.lb p q ↔ kinR S.lo S.lb p q := by
  have h5 := I.hP
  have lo : ∀ a b, a < S.P → b < S.P → btr S₇.lo (a * 8) b = btr S.lo (a * 8) b := fun a b ha hb => by
    exact L.2 a ha b (by omega)
  have lb : btr S₇.lb (p * 8) q = btr S.lb (p * 8) q := by
    have hP := h.1
    rw [I.lbz p q (by omega) (by omega), I₇.lbz p q (by omega) (by omega), lo q p hq hp, decide_eq_true hq, decide_eq_true (Nat.lt_of_lt_of_le hq h.1)]
  unfold kinR
  rw [lo p q hp hq, lb]
theorem sbS.ts {S S₇ : Stk} (h : sbS S S₇) (L : sbL S S₇) (I : sInv S) (I₇ : sInv S₇) {x : Nat} (hx : x < S.NLp S.P) : tsS S₇ x = tsS S x := by
  obtain ⟨a1, _, a3, _⟩ := I.lnt hx
  obtain ⟨b1, _, b3, _⟩ := I₇.lnt (L.1 x hx).1
  have e := (L.1 x hx).2.1
  exact (nI_eq (by omega) (by omega)).mp (b1.symm.trans (e.trans a1))
theorem szN_cg {f g : Nat → Nat} : ∀ (A : List Nat), (∀ x, x ∈ A → f x = g x) → szN f A = szN g A
  | [], _ => rfl
  | x :: t, h => by
    have e := szN_cg t (fun y z => h y (List.mem_cons_of_mem _ z))
    have e2 := h x (List.mem_cons_self ..)
    show f x + szN f t = g x + szN g t
    rw [e, e2]
/-- a text that is loaded stays right when the stock grows -/
theorem sbS.tx {S S₇ : Stk} (h : sbS S S₇) (L : sbL S S₇) (I : sInv S) (I₇ : sInv S₇) {mw : Nat → Int64} (hb : ∀ p, p < S₇.P → bt mw p = true → p < S.P) {y : Nat} {rw9 sl od : Nat → Int32} {re : Nat → Int64} {to de st le si un : Value} {gou : Nat → Int32} (V : txQ S mw y (fun x => S.pc (lcS S x)) (tsS S) rw9 sl od re to de st le si un gou) : txQ S₇ mw y (fun x => S₇.pc (lcS S₇ x)) (tsS S₇) rw9 sl od re to de st le si un gou := by
  have er := h.row I I₇ hb y
  have ed := h.deGe I hb (mw := mw) y
  have eg := h.edGe L I I₇ hb (mw := mw) y
  have en : dnG S₇ mw y = dnG S mw y := by unfold dnG; rw [er, ed]
  have es : cnt (sB S₇ (rowL S mw y) (deG S mw y) (dS S mw y S.P) (fun x => S₇.pc (lcS S₇ x))) (rowL S mw y).length = cnt (sB S (rowL S mw y) (deG S mw y) (dS S mw y S.P) (fun x => S.pc (lcS S x))) (rowL S mw y).length := by
    refine cnt_congr _ (fun a ha => ?_)
    obtain ⟨c, q, hc, h2, hq, e, hx, _⟩ := I.rowm (getD_mem ha)
    obtain ⟨_, _, l3, _, l5, l6⟩ := L.1 _ hx
    have f1 := I.lnf hc h2 hq
    rw [← e] at f1
    have e3 : lcS S₇ ((rowL S mw y).getD a 0) = c := by unfold lcS; rw [l3]; exact f1.2.1
    have e4 : lcS S ((rowL S mw y).getD a 0) = c := f1.2.1
    have hp := (I.pcs hc).1
    have key : ∀ nv, lostL S₇ (dS S mw y S.P) (S.pc c) nv ↔ lostL S (dS S mw y S.P) (S.pc c) nv := fun nv => by
      unfold lostL
      exact ⟨fun ⟨v, q, z1, z2, z3, z4, z5⟩ => ⟨v, q, z1, z2, z3, z4, fun w => z5 ((h.kin L I I₇ hp z4.1).mpr w)⟩, fun ⟨v, q, z1, z2, z3, z4, z5⟩ => ⟨v, q, z1, z2, z3, z4, fun w => z5 ((h.kin L I I₇ hp z4.1).mp w)⟩⟩
    refine Bool.eq_iff_iff.mpr (sB_iff.trans (Iff.trans ?_ sB_iff.symm))
    rw [e3, e4, h.pc I I₇ hc, l5, l6, key, key]
  unfold txQ at V ⊢
  rw [er, ed, eg, en, h.dSe I hb y, es]
  obtain ⟨v1, v2, v3, v4, v5, v6, v7, v8, v9, v10, v11⟩ := V
  refine ⟨v1, v2, v3, v4, v5, v6, v7, v8, v9, ?_, v11⟩
  rw [v10]
  refine congrArg (fun z => Value.int (nI z)) (szN_cg _ (fun x hx => ?_)).symm
  refine h.ts L I I₇ ?_
  unfold asL at hx
  obtain ⟨a, ha, e⟩ := List.mem_map.mp hx
  by_cases hlt : a < (rowL S mw y).length
  · rw [← e]
    obtain ⟨_, _, _, _, _, _, hx2, _⟩ := I.rowm (getD_mem hlt)
    exact hx2
  · rw [List.getD_eq_getElem?_getD, List.getElem?_eq_none (by omega)] at e
    exact absurd (gL_lt9 _ _ _ _ a ha) hlt

/-! 99zzzcd.frames.lean.txt -/
/-! worlds with a part X that a call does not see -/
theorem vP_iff {D : va_G} {cl : List vw_C} {ws : va_W} {H : Heap} : va_P D cl ws H ↔ ∀ q, q ∈ ws → va_at D cl q H := ⟨fun h q hq => by
    obtain ⟨i, hi⟩ := List.getElem?_of_mem hq
    exact h i q hi, fun h k q hk => h q (List.mem_of_getElem? hk)⟩
theorem vD_iff {A : Nat → Prop} {ws : va_W} : va_D A ws ↔ (ws.Pairwise (fun p q => p.1 ≠ q.1) ∧ ∀ q, q ∈ ws → A q.1) := by
  constructor
  · intro h
    refine ⟨List.pairwise_iff_getElem.mpr (fun i j hi hj hij e => ?_), fun q hq => ?_⟩
    · have := h.1 i j ws[i] ws[j] (List.getElem?_eq_getElem hi) (List.getElem?_eq_getElem hj) e
      omega
    · obtain ⟨i, hi⟩ := List.getElem?_of_mem hq
      exact h.2 i q hi
  · rintro ⟨h1, h2⟩
    refine ⟨fun i j p q hp hq e => ?_, fun k q hk => h2 q (List.mem_of_getElem? hk)⟩
    obtain ⟨a1, a2⟩ := List.getElem?_eq_some_iff.mp hp
    obtain ⟨b1, b2⟩ := List.getElem?_eq_some_iff.mp hq
    rcases Nat.lt_trichotomy i j with z | z | z
    · exact absurd (by rw [a2, b2]; exact e) (List.pairwise_iff_getElem.mp h1 i j a1 b1 z)
    · exact z
    · exact absurd (by rw [a2, b2]; exact e.symm) (List.pairwise_iff_getElem.mp h1 j i b1 a1 z)
theorem vP_perm {D : va_G} {cl : List vw_C} {a b : va_W} {H : Heap} (h : a.Perm b) (hP : va_P D cl a H) : va_P D cl b H := vP_iff.mpr (fun q hq => vP_iff.mp hP q (h.mem_iff.mpr hq))
theorem vD_perm {A : Nat → Prop} {a b : va_W} (h : a.Perm b) (hD : va_D A a) : va_D A b := by
  have h1 := vD_iff.mp hD
  exact vD_iff.mpr ⟨(h.pairwise_iff (fun z => Ne.symm z)).mp h1.1, fun q hq => h1.2 q (h.mem_iff.mpr hq)⟩
theorem vP_sl {D : va_G} {cl : List vw_C} {a b : va_W} {H : Heap} (h : List.Sublist b a) (hP : va_P D cl a H) : va_P D cl b H := vP_iff.mpr (fun q hq => vP_iff.mp hP q (h.subset hq))
theorem vD_sl {A : Nat → Prop} {a b : va_W} (h : List.Sublist b a) (hD : va_D A a) : va_D A b := by
  have h1 := vD_iff.mp hD
  exact vD_iff.mpr ⟨h1.1.sublist h, fun q hq => h1.2 q (h.subset hq)⟩
theorem xX_sl (cx X g : va_W) : List.Sublist (cx ++ g) (cx ++ (X ++ g)) := List.Sublist.append_left (List.sublist_append_right X g) cx
theorem xX_P {D : va_G} {cl : List vw_C} {cx X g : va_W} {H : Heap} (h : va_P D cl (cx ++ (X ++ g)) H) : va_P D cl (cx ++ g) H := vP_sl (xX_sl cx X g) h
theorem xX_D {A : Nat → Prop} {cx X g : va_W} (h : va_D A (cx ++ (X ++ g))) : va_D A (cx ++ g) := vD_sl (xX_sl cx X g) h
theorem vA_mem {ws : va_W} {z q : Nat} : va_A ws z q ↔ ((∃ e, (q, e) ∈ ws) ∨ z ≤ q) := by
  unfold va_A
  exact ⟨fun h => h.elim (fun ⟨k, e, y⟩ => Or.inl ⟨e, List.mem_of_getElem? y⟩) Or.inr, fun h => h.elim (fun ⟨e, y⟩ => by
    obtain ⟨k, hk⟩ := List.getElem?_of_mem y
    exact Or.inl ⟨k, e, hk⟩) Or.inr⟩
theorem xX_F {A0 : Nat → Prop} {cx X g : va_W} {z : Nat} (h : ∀ q, va_A (cx ++ (X ++ g)) z q → A0 q) : ∀ q, va_A (cx ++ g) z q → A0 q := fun q hq => h q (vA_mem.mpr ((vA_mem.mp hq).elim (fun ⟨e, y⟩ => Or.inl ⟨e, (xX_sl cx X g).subset y⟩) Or.inr))
theorem vD_apart {A : Nat → Prop} {a b : va_W} (h : va_D A (a ++ b)) {p q : Nat × va_E} (hp : p ∈ a) (hq : q ∈ b) : p.1 ≠ q.1 := (List.pairwise_append.mp (vD_iff.mp h).1).2.2 p hp q hq
/-- behind a call that had the pool but not X -/
theorem va_joinX {A0 : Nat → Prop} {D : va_G} {cl : List vw_C} {W0 cx wr rx X g g1 : va_W} {H H1 : Heap} (hP : va_P D cl (W0 ++ (X ++ g)) H) (hD : va_D A0 (W0 ++ (X ++ g))) (isC isR : List Nat) (hC : isC.map (fun i => W0[i]?) = cx.map some) (hR : isR.map (fun i => W0[i]?) = wr.map some) (hn : va_nd isR = true) (hdis : ∀ i ∈ isR, i ∉ isC)
    (hk : ∀ q : Nat, q < H.size → ¬ va_A (cx ++ g) H.size q → H1[q]? = H[q]?) (hF : ∀ q, va_A (cx ++ g) H.size q → A0 q) (hP1 : va_P D cl (rx ++ g1) H1) (hD1 : va_D (va_A (cx ++ g) H.size) (rx ++ g1)) : va_P D cl ((wr ++ rx) ++ (X ++ g1)) H1 ∧ va_D A0 ((wr ++ rx) ++ (X ++ g1)) := by
  have hPr : va_P D cl (wr ++ (X ++ g)) H := hP.part isR hR
  have hDr : va_D A0 (wr ++ (X ++ g)) := hD.part isR hn hR
  have inC : ∀ q, q ∈ cx → q ∈ W0 := fun q hq => by
    obtain ⟨k, hk⟩ := List.getElem?_of_mem hq
    obtain ⟨i, _, h2⟩ := va_in_of isC hC hk
    exact List.mem_of_getElem? h2
  have apart : ∀ q, q ∈ wr ++ X → q.1 < H.size ∧ ¬ va_A (cx ++ g) H.size q.1 := by
    intro q hq
    have hl : q.1 < H.size := (vP_iff.mp hPr q (by rw [← List.append_assoc]; exact List.mem_append_left _ hq)).lt
    refine ⟨hl, fun h => ?_⟩
    rcases vA_mem.mp h with ⟨e, y⟩ | y
    · rcases List.mem_append.mp y with y | y
      · rcases List.mem_append.mp hq with z | z
        · obtain ⟨k, hk1⟩ := List.getElem?_of_mem z
          obtain ⟨i, i1, i2⟩ := va_in_of isR hR hk1
          obtain ⟨k2, hk2⟩ := List.getElem?_of_mem y
          obtain ⟨j, j1, j2⟩ := va_in_of isC hC hk2
          have hi : (W0 ++ (X ++ g))[i]? = some q := by rw [List.getElem?_append_left (List.getElem?_eq_some_iff.mp i2).1]; exact i2
          have hj : (W0 ++ (X ++ g))[j]? = some (q.1, e) := by rw [List.getElem?_append_left (List.getElem?_eq_some_iff.mp j2).1]; exact j2
          have hij := hD.1 i j q (q.1, e) hi hj rfl
          subst hij
          exact hdis i (List.mem_of_getElem? i1) (List.mem_of_getElem? j1)
        · exact vD_apart hD (inC _ y) (List.mem_append_left g z) rfl
      · have hD2 : va_D A0 ((wr ++ X) ++ g) := by rw [List.append_assoc]; exact hDr
        exact vD_apart hD2 hq y rfl
    · omega
  have hDw : va_D A0 (wr ++ X) := vD_sl (List.Sublist.append_left (List.sublist_append_left X g) wr) hDr
  have hperm : ((wr ++ X) ++ (rx ++ g1)).Perm ((wr ++ rx) ++ (X ++ g1)) := by
    rw [List.append_assoc, List.append_assoc]
    exact List.Perm.append_left wr (List.perm_append_comm_assoc X rx g1)
  have hPk : va_P D cl (wr ++ X) H1 := vP_iff.mpr (fun q hq => by
    obtain ⟨g1', g2'⟩ := apart q hq
    exact (vP_iff.mp hPr q (by rw [← List.append_assoc]; exact List.mem_append_left _ hq)).kept (hk q.1 g1' g2'))
  refine ⟨vP_perm hperm (va_P.app hPk hP1), vD_perm hperm (va_D.app hDw (hD1.weaken (fun k q _ h => hF q.1 h)) (fun i j x y hx hy hxy => ?_))⟩
  exact (apart x (List.mem_of_getElem? hx)).2 (by rw [hxy]; exact hD1.2 j y hy)
/-- the cells of the first n repositories -/
def rpL (f : Nat → va_W) : Nat → va_W
  | 0 => []
  | n + 1 => rpL f n ++ f n
/-- those of the others -/
def rpO (f : Nat → va_W) (k n : Nat) : va_W := rpL (fun i => if i = k then [] else f i) n
theorem rpL_cg {f g : Nat → va_W} : ∀ n, (∀ i, i < n → f i = g i) → rpL f n = rpL g n
  | 0, _ => rfl
  | n + 1, h => by
    show rpL f n ++ f n = rpL g n ++ g n
    rw [rpL_cg n (fun i z => h i (by omega)), h n (by omega)]
theorem rpO_cg {f g : Nat → va_W} {k n : Nat} (h : ∀ i, i < n → ¬ i = k → f i = g i) : rpO f k n = rpO g k n := rpL_cg n (fun i z => by
  by_cases e : i = k
  · rw [if_pos e, if_pos e]
  · rw [if_neg e, if_neg e, h i z e])
theorem rpO_ge {f : Nat → va_W} {k n : Nat} (h : n ≤ k) : rpO f k n = rpL f n := rpL_cg n (fun i z => if_neg (by omega))
theorem rp_perm (f : Nat → va_W) {k : Nat} : ∀ {n}, k < n → (rpL f n).Perm (f k ++ rpO f k n)
  | 0, h => absurd h (Nat.not_lt_zero _)
  | n + 1, h => by
    show (rpL f n ++ f n).Perm (f k ++ (rpO f k n ++ (if n = k then [] else f n)))
    by_cases e : n = k
    · subst e
      rw [if_pos rfl, List.append_nil, rpO_ge (Nat.le_refl _)]
      exact List.perm_append_comm
    · rw [if_neg e, ← List.append_assoc]
      exact List.Perm.append_right (f n) (rp_perm f (by omega))
theorem rp_perm2 (f : Nat → va_W) {k j n : Nat} (hk : k < n) (hj : j < n) (hne : ¬ j = k) : (rpL f n).Perm (f k ++ (f j ++ rpO (fun i => if i = k then [] else f i) j n)) := by
  refine (rp_perm f hk).trans (List.Perm.append_left (f k) ?_)
  have h := rp_perm (fun i => if i = k then [] else f i) hj
  rw [if_neg hne] at h
  exact h
theorem vD_hd {A : Nat → Prop} {B : va_W} {a : Nat} {e e' : va_E} (h : va_D A ((a, e) :: B)) : va_D A ((a, e') :: B) := by
  have h1 := vD_iff.mp h
  obtain ⟨h2, h3⟩ := List.pairwise_cons.mp h1.1
  refine vD_iff.mpr ⟨List.pairwise_cons.mpr ⟨fun q hq => h2 q hq, h3⟩, fun q hq => ?_⟩
  rcases List.mem_cons.mp hq with y | y
  · rw [y]; exact h1.2 (a, e) (List.mem_cons_self ..)
  · exact h1.2 q (List.mem_cons_of_mem _ y)
theorem vp_cgL {c : ClassId} {n : Nat} {f g : Nat → Int64} (h : ∀ i, i < n → f i = g i) : vp_cell c (n, .inr (.inl f)) = vp_cell c (n, .inr (.inl g)) := by
  rw [vp_cell_l, vp_cell_l]
  unfold arrV
  rw [show (fun j : Fin n => Value.long (f j.val)) = (fun j : Fin n => Value.long (g j.val)) from funext (fun j => by rw [h j.val j.isLt])]
theorem vP_hdL {D : va_G} {cl : List vw_C} {B : va_W} {H : Heap} {a n : Nat} {c : ClassId} {f g : Nat → Int64} (h : ∀ i, i < n → f i = g i) (hP : va_P D cl ((a, .inl (c, n, .inr (.inl f))) :: B) H) : va_P D cl ((a, .inl (c, n, .inr (.inl g))) :: B) H := by
  refine vP_iff.mpr (fun q hq => ?_)
  rcases List.mem_cons.mp hq with e | e
  · rw [e]
    have z := vP_iff.mp hP _ (List.mem_cons_self ..)
    show H[a]? = some (vp_cell c (n, .inr (.inl g)))
    rw [← vp_cgL h]
    exact z
  · exact vP_iff.mp hP q (List.mem_cons_of_mem _ e)

/-! 99zzzce.keeps.lean.txt -/
/-! what the law's loop keeps: pure rows -/
theorem sInv.caL {S : Stk} (I : sInv S) {x : Nat} (z : x < S.FC S.P) : S.CA x < S.FR S.P := by
  have := (I.cW z).1
  omega
theorem mrR.wf {S : Stk} {g so fo la lc ns : Nat → Int32} (I : sInv S) (hb : ∀ i, i < S.FR S.P → S.f i = g i) (h : mrR S.f S.CA S.CF S.CL (S.FC S.P) so fo la lc ns) : mrR g S.CA S.CF S.CL (S.FC S.P) so fo la lc ns := by
  have e0 : ∀ x, x < S.FC S.P → g (S.CA x) = S.f (S.CA x) := fun x z => (hb _ (I.caL z)).symm
  refine ⟨fun x z => (h.1 x z).trans (e0 x z).symm, fun x z k => h.2.1 x z (by rw [e0 x z] at k; exact k), fun x z k => ?_, fun x z k => ?_, h.2.2.2.2⟩
  · rw [e0 x z] at k
    have W := I.cW z
    have w := W.2.2.1 k
    have q := h.2.2.1 x z k
    rw [← lnAt_cg (g := g) (fun i y => hb i y) W.1 w.2.1, ← tw_cg (g := g) (fun i y => hb i y) w.2.2.2]
    exact q
  · rw [e0 x z] at k
    have W := I.cW z
    have w := W.2.1 k
    have q := h.2.2.2.1 x z k
    rw [← nmAt_cg (g := g) (fun i y => hb i y) W.1]
    have e : nmAt S.f (S.CA x) = S.CA x + 6 + 4 * b8 (S.f (S.CA x + 5)) := by unfold nmAt; rw [if_neg (by rw [k]; decide)]
    rw [← hb (nmAt S.f (S.CA x)) (by omega)]
    exact q
theorem mrp.wf {S : Stk} {Z : Mda} {G : Gr} {g : Nat → Int32} (I : sInv S) (M : mrp S Z G) (hb : ∀ i, i < S.FR S.P → S.f i = g i) : mrp (S.wf g) Z G := by
  obtain ⟨m1, m2, m3, m4, m5, m6, m7, m8, m9⟩ := M
  have h := sbS.wf hb
  refine ⟨fun i z => (m1 i z).trans (hb i z), m2, m3, m4, m5, fun p j hp hj => ?_, mrR.wf (S := S) I hb m7, m8, m9⟩
  have hj' : j < S.nT p := by rw [← h.nT I hp]; exact hj
  obtain ⟨a1, o, a2⟩ := m6 p j hp hj'
  obtain ⟨q1, q2, q3, W⟩ := I.fc1 hp hj'
  have A := h.agr I hp (cc := S.FC p + j) (by omega) (by omega)
  have z := a2.agr A rfl rfl (I.chg hp hj')
  refine ⟨a1, o, ?_⟩
  have e1 := h.nd I hp
  have e2 : NFs g S.CA (S.FC p) (S.NFp p) j = NFs S.f S.CA (S.FC p) (S.NFp p) j := NFs_cg (fun i y => ⟨rfl, (hb _ (I.caL (by omega))).symm⟩)
  show chZ g ((S.wf g).dp p) S.FC S.CA S.CL p ((S.wf g).nd p) (S.FC p + j) (NFs g S.CA (S.FC p) (S.NFp p) j) o Z
  rw [e1, e2]
  exact z
/-- bytes -/
theorem by1_tw (v : Int32) : by1 (by1 v) = by1 v := pk_vb _
theorem by1_sh (f : Nat → Int32) (k : Nat) : by1 (sh_outb f k) = sh_outb f k := pk_vb _
theorem by1_z8 {v : Int32} (h : by1 v = v) (hz : b8 v = 0) : v = 0 := (b8_nI h (by decide)).mp hz
theorem by1_fits {v : Int32} (h : by1 v = v) : fits .byte (.int v) = true := (congrArg (fun z => fits .byte (.int z)) h).symm.trans (pk_fb v)
/-- one place of a row of things set -/
def stN {A : Type} (f : Nat → A) (r : Nat) (x : A) : Nat → A := fun k => if k = r then x else f k
theorem stN_eq {A : Type} (f : Nat → A) (r : Nat) (x : A) : stN f r x r = x := if_pos rfl
theorem stN_ne {A : Type} (f : Nat → A) {r k : Nat} (x : A) (h : ¬ k = r) : stN f r x k = f k := if_neg h
theorem stN_self {A : Type} (f : Nat → A) (r : Nat) : stN f r (f r) = f := funext (fun k => by
  by_cases h : k = r
  · rw [h, stN_eq]
  · rw [stN_ne _ _ h])
/-- the flags of a set are flags -/
def flO (sf : Nat → Int32) : Prop := ∀ q, q < 500 → sf q = 0 ∨ sf q = 1
theorem fb.mono {sf : Nat → Int32} {mw : Nat → Int64} {m n : Nat} (h : fb sf mw n) (hm : m ≤ n) : fb sf mw m := fun q hq => h q (by omega)
theorem fb.o {sf : Nat → Int32} {mw : Nat → Int64} (h : fb sf mw 500) : flO sf := fun q hq => (h q hq).elim (fun z => Or.inr z.1) (fun z => Or.inl z.1)
/-- a set: closed, its flags, its bits below the stock's patches, its size -/
def rlK (S : Stk) (mw : Nat → Int64) (zi : Int32) (sf : Nat → Int32) : Prop := clo S mw ∧ fb sf mw 500 ∧ (∀ p, p < 512 → bt mw p = true → p < S.P) ∧ zi = nI (cnt (bt mw) S.P)
/-- the stock and its arrays -/
def rlS (S : Stk) (Z : StkA) : Prop := sInv S ∧ rep S Z ∧ (∀ j, j < 290000 → by1 (S.f j) = S.f j) ∧ ∀ j, j < 16032 → by1 (Z.hs j) = Z.hs j
theorem rlS.bz {S : Stk} {Z : StkA} (h : rlS S Z) : ∀ j, j < S.FR S.P → b8 (S.f j) = 0 → S.f j = 0 := fun j hj hz => by
  have := h.1.frP
  exact by1_z8 (h.2.2.1 j (by omega)) hz
/-- the tape -/
def rlT (tf : Nat → Int32) (tn : Nat) : Prop := tn ≤ 65536 ∧ ∀ j, j < 65536 → by1 (tf j) = tf j
/-- the view, whichever repository it is of -/
def rlV (S : Stk) (MW : Nat → Nat → Int64) (RR RV : Nat → Nat) (ld : Option Nat) (vv rd : Nat) (ov vf vo vn : Nat → Int32) (ft nt : Value) : Prop := (∀ x, x < 38000 → ∃ k, k ≤ rd ∧ ov x = nI k) ∧ ∀ k, k < 8 → ld = some (RR k) → vv ≤ RV k ∧ (vv = RV k → vwQ S (MW k) vf vo vn ft nt)
/-- the text, whichever repository and file it is of -/
def rlX (S : Stk) (MW : Nat → Nat → Int64) (RR RV : Nat → Nat) (lt : Option Nat) (tv lf : Nat) (rw9 sl od : Nat → Int32) (re : Nat → Int64) (to de st le si un : Value) : Prop := lf < 40000 ∧ ∀ k, k < 8 → lt = some (RR k) → tv ≤ RV k ∧ (tv = RV k → ∃ gou, txQ S (MW k) lf (fun x => S.pc (lcS S x)) (tsS S) rw9 sl od re to de st le si un gou)
/-- a digest that is kept -/
def rlG (S : Stk) (Z : StkA) (mw : Nat → Int64) (dv : Int32) (rv : Nat) (dg9 : Nat → Int32) : Prop := (∃ a : Nat, a ≤ rv + 1 ∧ dv = nI a - 1) ∧ (dv = nI rv → ∀ j, j < 32 → dg9 j = sh_outb (dg (catH (fun p i => Z.hs (p * 32 + i)) (mbL S mw S.P)) 0 (32 * (mbL S mw S.P).length)) j)
/-- the lists of the reference -/
def rlL (S : Stk) (mw : Nat → Int64) (ls lc lt : Nat → Int32) (k sp : Nat) : Prop := (∃ a, a ≤ sp ∧ ls k = nI a) ∧ (ls k = nI sp → lc k = nI (filL S mw).length ∧ arrL lt (filL S mw))
/-- the edges of a file's graph -/
def egS (S : Stk) (mw : Nat → Int64) (y : Nat) : Nat → Nat → Prop := fun l m => iE S (rowL S mw y) (rowL S mw y).length l m ∨ oS S mw y S.P l m
/-- the graph that the reference worked out last -/
def rlW (S : Stk) (G : Gr) (MW : Nat → Nat → Int64) (sp : Nat) (wst wrp wfl : Int32) (pl de mb tx : Nat → Int32) (U mq kk : Nat) : Prop := (∃ a, a ≤ sp ∧ wst = nI a) ∧ ∃ ML T, ∀ k y, k < 8 → y < 40000 → wst = nI sp → wrp = nI k → wfl = nI y → wkQ G.H S.pc (lcS S) (fun x => x ∈ rowL S (MW k) y) (deG S (MW k) y) (egS S (MW k) y) G.W pl de mb tx ML T U mq kk
/-- the numbers that grow -/
def rlJ (n : Nat) (RV : Nat → Nat) (vv rd tv sp : Nat) : Prop := (∀ k, k < 8 → RV k ≤ 2 * n) ∧ vv ≤ 2 * n ∧ rd ≤ n ∧ tv ≤ 2 * n ∧ sp ≤ n + 1
theorem rlJ.mono {n m : Nat} {RV : Nat → Nat} {vv rd tv sp : Nat} (h : rlJ n RV vv rd tv sp) (hm : n ≤ m) : rlJ m RV vv rd tv sp := ⟨fun k z => Nat.le_trans (h.1 k z) (by omega), Nat.le_trans h.2.1 (by omega), Nat.le_trans h.2.2.1 hm, Nat.le_trans h.2.2.2.1 (by omega), Nat.le_trans h.2.2.2.2 (by omega)⟩
/-- the outer rows of the reference's arrays of arrays -/
def rlE (G : Gr) (ge gw gc : Nat → Option Nat) : Prop := (∀ a, a < 400 → ge a = some (G.ae a)) ∧ (∀ a, a < 400 → gw a = some (G.aw a)) ∧ ∀ a, a < 202 → gc a = some (G.ac a)
/-! the stock grows -/
theorem sbS.clo {S S₇ : Stk} (h : sbS S S₇) (I : sInv S) (I₇ : sInv S₇) {mw : Nat → Int64} (hb : ∀ p, p < 512 → bt mw p = true → p < S.P) (C : clo S mw) : clo S₇ mw := by
  intro p hp hbp
  have h5 := I₇.hP
  have hp' := hb p (by omega) hbp
  intro n hn z
  rw [h.lob I I₇ p hp' n hn] at z
  exact C p hp' hbp n hn z
theorem sbS.cnt {S S₇ : Stk} (h : sbS S S₇) (I₇ : sInv S₇) {mw : Nat → Int64} (hb : ∀ p, p < 512 → bt mw p = true → p < S.P) : cnt (bt mw) S₇.P = cnt (bt mw) S.P := by
  have h5 := I₇.hP
  obtain ⟨d, hd⟩ : ∃ d, S₇.P = S.P + d := ⟨S₇.P - S.P, by have := h.1; omega⟩
  rw [hd, cnt_add, cnt_zero d (fun i hi => ?_), Nat.add_zero]
  by_cases z : bt mw (S.P + i) = true
  · have := hb _ (by omega) z
    omega
  · exact Bool.eq_false_iff.mpr z
theorem sbS.gK {S S₇ : Stk} (h : sbS S S₇) (I : sInv S) (I₇ : sInv S₇) {mw : Nat → Int64} {zi : Int32} {sf : Nat → Int32} (K9 : rlK S mw zi sf) : rlK S₇ mw zi sf := ⟨h.clo I I₇ K9.2.2.1 K9.1, K9.2.1, fun p z1 z2 => Nat.lt_of_lt_of_le (K9.2.2.1 p z1 z2) h.1, by rw [h.cnt I₇ K9.2.2.1]; exact K9.2.2.2⟩
theorem rlK.hb {S S₇ : Stk} {mw : Nat → Int64} {zi : Int32} {sf : Nat → Int32} (K9 : rlK S mw zi sf) (I₇ : sInv S₇) : ∀ p, p < S₇.P → bt mw p = true → p < S.P := fun p z1 z2 => K9.2.2.1 p (by have := I₇.hP; omega) z2
theorem sbS.gV {S S₇ : Stk} (h : sbS S S₇) (I : sInv S) (I₇ : sInv S₇) {MW : Nat → Nat → Int64} {ZI : Nat → Int32} {SF : Nat → Nat → Int32} {RR RV : Nat → Nat} {ld : Option Nat} {vv rd : Nat} {ov vf vo vn : Nat → Int32} {ft nt : Value} (K9 : ∀ k, k < 8 → rlK S (MW k) (ZI k) (SF k)) (V : rlV S MW RR RV ld vv rd ov vf vo vn ft nt) : rlV S₇ MW RR RV ld vv rd ov vf vo vn ft nt := ⟨V.1, fun k hk e => ⟨(V.2 k hk e).1, fun z => h.vw I I₇ ((K9 k hk).hb I₇) ((V.2 k hk e).2 z)⟩⟩
theorem sbS.gX {S S₇ : Stk} (h : sbS S S₇) (I : sInv S) (I₇ : sInv S₇) {MW : Nat → Nat → Int64} {ZI : Nat → Int32} {SF : Nat → Nat → Int32} {RR RV : Nat → Nat} {lt : Option Nat} {tv lf : Nat} {rw9 sl od : Nat → Int32} {re : Nat → Int64} {to de st le si un : Value} (K9 : ∀ k, k < 8 → rlK S (MW k) (ZI k) (SF k)) (V : rlX S MW RR RV lt tv lf rw9 sl od re to de st le si un) : rlX S₇ MW RR RV lt tv lf rw9 sl od re to de st le si un := ⟨V.1, fun k hk e => ⟨(V.2 k hk e).1, fun z => by
  obtain ⟨gou, q⟩ := (V.2 k hk e).2 z
  exact ⟨gou, h.tx (h.L I I₇) I I₇ ((K9 k hk).hb I₇) q⟩⟩⟩
theorem catH_cg {H H' : Nat → Nat → Int32} {L : List Nat} (h : ∀ x, x ∈ L → ∀ i, i < 32 → H x i = H' x i) : ∀ j, j < 32 * L.length → catH H L j = catH H' L j := fun j hj => by
  unfold catH
  exact h _ (getD_mem (by omega)) _ (Nat.mod_lt _ (by decide))
theorem sbS.gG {S S₇ : Stk} {Z Z₇ : StkA} (h : sbS S S₇) (I : sInv S) (I₇ : sInv S₇) (R : rep S Z) (R' : rep S₇ Z₇) {mw : Nat → Int64} {zi dv : Int32} {rv : Nat} {sf dg9 : Nat → Int32} (K9 : rlK S mw zi sf) (V : rlG S Z mw dv rv dg9) : rlG S₇ Z₇ mw dv rv dg9 := ⟨V.1, fun z j hj => by
  rw [V.2 z j hj, h.mb I I₇ (K9.hb I₇)]
  refine sh_outb_congr (dg_congr (fun k hk => ?_)) hj
  rw [Nat.zero_add]
  refine catH_cg (fun x hx i hi => ?_) k (by omega)
  have hx' := ((mbL_in I).mp hx).1
  rw [R.hs _ (by omega), R'.hs _ (by have := h.1; omega), h.2.2.2.2.2 _ (by omega)]⟩
/-! a candidate that was not kept: other bytes behind the stock -/
theorem Stk.pc_wf {S : Stk} (I : sInv S) {g : Nat → Int32} (hb : ∀ i, i < S.FR S.P → S.f i = g i) : (S.wf g).pc = S.pc := by
  funext c
  unfold Stk.pc
  congr 1
  funext p
  refine propext ⟨fun ⟨h1, j, h2, h3⟩ => ⟨h1, j, ?_, h3⟩, fun ⟨h1, j, h2, h3⟩ => ⟨h1, j, ?_, h3⟩⟩
  · rw [← (sbS.wf hb).nT I h1]; exact h2
  · rw [(sbS.wf hb).nT I h1]; exact h2
theorem egS_wf {S : Stk} (I : sInv S) {g : Nat → Int32} (hb : ∀ i, i < S.FR S.P → S.f i = g i) {mw : Nat → Int64} (hm : ∀ p, p < S.P → bt mw p = true → p < S.P) (y : Nat) : egS (S.wf g) mw y = egS S mw y := by
  have h := sbS.wf hb
  have I₇ := I.wf hb
  funext l m
  unfold egS
  rw [h.row I I₇ hm y]
  refine propext (or_congr ?_ (h.oSe I hm))
  unfold iE
  exact ⟨fun ⟨k, y1, y2⟩ => ⟨k, y1, (h.eEe (h.L I I₇) I I₇ (getD_mem y1)).mp y2⟩, fun ⟨k, y1, y2⟩ => ⟨k, y1, (h.eEe (h.L I I₇) I I₇ (getD_mem y1)).mpr y2⟩⟩
theorem rlW.wf {S : Stk} {G : Gr} {MW : Nat → Nat → Int64} {sp : Nat} {wst wrp wfl : Int32} {pl de mb tx : Nat → Int32} {U mq kk : Nat} {g : Nat → Int32} (I : sInv S) (hb : ∀ i, i < S.FR S.P → S.f i = g i) (V : rlW S G MW sp wst wrp wfl pl de mb tx U mq kk) : rlW (S.wf g) G MW sp wst wrp wfl pl de mb tx U mq kk := by
  have h := sbS.wf hb
  have I₇ := I.wf hb
  obtain ⟨V1, ML, T, q0⟩ := V
  refine ⟨V1, ML, T, fun k y hk hy z1 z2 z3 => ?_⟩
  have q := q0 k y hk hy z1 z2 z3
  have hm : ∀ p, p < (S.wf g).P → bt (MW k) p = true → p < S.P := fun p z _ => z
  rw [Stk.pc_wf I hb, h.row I I₇ hm y, h.deGe I hm y, egS_wf I hb hm y]
  exact q
theorem rlL.wf {S : Stk} {mw : Nat → Int64} {ls lc lt : Nat → Int32} {k sp : Nat} {g : Nat → Int32} (I : sInv S) (hb : ∀ i, i < S.FR S.P → S.f i = g i) (V : rlL S mw ls lc lt k sp) : rlL (S.wf g) mw ls lc lt k sp := by
  have h := sbS.wf hb
  unfold rlL at V ⊢
  rw [h.fil I (I.wf hb) (fun p z _ => z)]
  exact V
/-- a stamp that is over -/
theorem st_no {sp : Nat} {v : Int32} (h : ∃ a, a ≤ sp ∧ v = nI a) (hs : sp < 100000) (e : v = nI (sp + 1)) : False := by
  obtain ⟨a, h1, h2⟩ := h
  have := (nI_eq (a := a) (b := sp + 1) (by omega) (by omega)).mp (h2.symm.trans e)
  omega
theorem rlL.next {S S₇ : Stk} {mw mw₇ : Nat → Int64} {ls lc lt : Nat → Int32} {k sp : Nat} (hs : sp < 100000) (V : rlL S mw ls lc lt k sp) : rlL S₇ mw₇ ls lc lt k (sp + 1) := ⟨by obtain ⟨a, h1, h2⟩ := V.1; exact ⟨a, by omega, h2⟩, fun e => (st_no V.1 hs e).elim⟩
theorem rlW.next {S S₇ : Stk} {G G₇ : Gr} {MW MW₇ : Nat → Nat → Int64} {sp : Nat} {wst wrp wfl : Int32} {pl de mb tx : Nat → Int32} {U mq kk : Nat} (hs : sp < 100000) (V : rlW S G MW sp wst wrp wfl pl de mb tx U mq kk) : rlW S₇ G₇ MW₇ (sp + 1) wst wrp wfl pl de mb tx U mq kk := ⟨by obtain ⟨a, h1, h2⟩ := V.1; exact ⟨a, by omega, h2⟩, [], [], fun k y hk _ e => (st_no V.1 hs e).elim⟩
/-! the reference's lists and the class's -/
theorem mrp.flq {S : Stk} {Z : Mda} {G : Gr} (M : mrp S Z G) (I : sInv S) (mw : Nat → Int64) : srt (fkG G.H S.pc (fhS S)) (filL S mw) := by
  rw [srt_pw]
  unfold filL flA
  refine List.Pairwise.filter _ ?_
  rw [List.pairwise_map]
  refine List.Pairwise.imp_of_mem (fun {a b} ha hb hab => ?_) ((M.srtU I mw S.P (Nat.le_refl _)).filter _)
  obtain ⟨a1, a2⟩ := List.mem_filter.mp ha
  obtain ⟨b1, b2⟩ := List.mem_filter.mp hb
  unfold adB at a2 b2
  rw [beq_iff_eq] at a2 b2
  have ea := (I.fhc (I.allu.mp a1).1 a2).1
  have eb := (I.fhc (I.allu.mp b1).1 b2).1
  unfold fkG
  rw [ea, eb]
  exact hab
theorem mrp.nmq {S : Stk} {Z : Mda} {G : Gr} (M : mrp S Z G) (I : sInv S) (mw : Nat → Int64) (y : Nat) : srt (kyG G.H S.pc) ((namL S mw).filter (ofF S y)) := by
  rw [srt_pw]
  unfold namL nmA
  exact ((M.srtU I mw S.P (Nat.le_refl _)).filter _).filter _
theorem filL_le {S : Stk} {Z : StkA} (h : rlS S Z) (mw : Nat → Int64) : (filL S mw).length ≤ 200 := (filL_len9 h.1 h.bz mw).1

/-! 99zzzcf.sets.lean.txt -/
/-! sets that change -/
theorem nI_p1 (a : Nat) : nI a + 1 = nI (a + 1) := nI_addc a 1
theorem rlK.take {S : Stk} {mw : Nat → Int64} {zi : Int32} {sf : Nat → Int32} {p : Nat} (K9 : rlK S mw zi sf) (hp : p < S.P) (hP : S.P ≤ 500) (hr : rowIn S.lo mw (p * 8)) (h0 : bt mw p = false) : rlK S (bt_in mw p) (zi + 1) (upd sf p 1) := by
  obtain ⟨k1, k2, k3, k4⟩ := K9
  have up : ∀ q, bt mw q = true → bt (bt_in mw p) q = true := fun q z => by rw [bt_in_at, z]; rfl
  refine ⟨fun q hq z n hn y => ?_, fun q hq => ?_, fun q hq z => ?_, ?_⟩
  · rw [bt_in_at] at z
    rcases Bool.or_eq_true_iff.mp z with z | z
    · exact up n (k1 q hq z n hn y)
    · have e := of_decide_eq_true z
      subst e
      exact up n (hr n hn y)
  · by_cases e : q = p
    · subst e
      rw [upd_eq]
      exact Or.inl ⟨rfl, by rw [bt_in_at, decide_eq_true rfl, Bool.or_true]⟩
    · rw [upd_ne _ e]
      have e2 : bt (bt_in mw p) q = bt mw q := by rw [bt_in_at, decide_eq_false e, Bool.or_false]
      rw [e2]
      exact k2 q hq
  · rw [bt_in_at] at z
    rcases Bool.or_eq_true_iff.mp z with z | z
    · exact k3 q hq z
    · have e := of_decide_eq_true z
      omega
  · rw [k4, nI_p1, cnt_in (bt_in_at mw p) h0, if_pos hp]
/-- what a set leans on by a patch that settle gives -/
theorem stl.row {S S1 : Stk} {bf hs : Nat → Int32} {en : Nat} {mw : Nat → Int64} {p : Nat} (I : sInv S) (I1 : sInv S1) (R : ∀ i, i < S.P * 32 → hs i = S.hf i) (hb : ∀ i, i < S.FR S.P → S.f i = bf i) (C : clo S mw) (hp : p < 500) (h : stl S bf hs en mw (nI p) S1) : p < S1.P ∧ rowIn S1.lo mw (p * 8) := by
  have ne : ∀ v : Int32, v < 0 → ¬ nI p = v := fun v hv e => nI_pos (n := p) (by omega) (by rw [e]; exact hv)
  have hS := stl.sb I I1 hb h
  rcases h with ⟨z, _⟩ | ⟨z, _⟩ | ⟨e, _, _, i, hi, h2⟩ | ⟨hk, hd, _, h2⟩
  · exact absurd z (ne _ (by decide))
  · exact absurd z (ne _ (by decide))
  · rcases h2 with ⟨h3, h4⟩ | ⟨_, z⟩
    · have hBP := I.bh i hi.1
      have h5 := I.hP
      have e2 := (nI_eq (a := p) (b := S.BH i) (by omega) (by omega)).mp h4
      rw [e, e2]
      exact ⟨hBP, h3⟩
    · exact absurd z (ne _ (by decide))
  · rcases h2 with ⟨z, _⟩ | ⟨z, _⟩ | ⟨CF1, hC, _, h4⟩
    · exact absurd z (ne _ (by decide))
    · exact absurd z (ne _ (by decide))
    · rcases h4 with ⟨z, _⟩ | ⟨h5, _, BH1, hf1, lo1, lb1, la, ll, lc, lp, lu, ld, ad, e, _⟩
      · exact absurd z (ne _ (by decide))
      · have h6 := I.hP
        have e2 := (nI_eq (a := p) (b := S.P) (by omega) (by omega)).mp h5
        have hP1 : S1.P = S.P + 1 := by rw [e]; rfl
        have hlo : ∀ q, q < S.P → ∀ n, n < 512 → btr S1.lo (q * 8) n = btr S.lo (q * 8) n := fun q hq n hn => hS.lob I (I1.wf (g := bf) (fun i z => by rw [e]; rfl)) q hq n hn
        have hnd : S1.nd S.P = tw bf (S.FR S.P) := by
          rw [e]
          show tw bf (upN S.FR (S.P + 1) en S.P) = _
          rw [upN_ne _ (by omega)]
        refine ⟨by omega, fun n hn z => ?_⟩
        rw [e2] at z
        obtain ⟨k, hk1, hk2⟩ := ((I1.pi S.P (by omega)).ln n hn).mp z
        rw [hnd] at hk1
        have hdp : S1.dp S.P k = dpN S bf hs k := by
          rw [e]
          show (if upN S.FD (S.P + 1) (S.FD S.P + tw bf (S.FR S.P)) S.P + k < S.FD S.P then _ else dpN S bf hs (upN S.FD (S.P + 1) (S.FD S.P + tw bf (S.FR S.P)) S.P + k - S.FD S.P)) = _
          rw [upN_ne _ (by omega), if_neg (by omega), show S.FD S.P + k - S.FD S.P = k by omega]
        obtain ⟨d1, _, d3⟩ := dpN_ok I R hd k hk1
        have hbt : bt mw (dpN S bf hs k) = true := (re_ok_bt (by omega)).mp d3
        rw [hdp] at hk2
        rcases hk2 with y | y
        · rw [y]; exact hbt
        · rw [hlo _ d1 n hn] at y
          exact C _ d1 hbt n hn y
/-- patches come into a set -/
theorem rlK.add {S : Stk} {mw u : Nat → Int64} {zi : Int32} {sf sf₇ : Nat → Int32} {B : Nat → Bool} (K9 : rlK S mw zi sf) (hP : S.P ≤ 500) (hB : ∀ q, q < 512 → bt u q = (bt mw q || B q)) (hBP : ∀ q, q < 512 → B q = true → q < S.P) (hcl : ∀ q, q < S.P → B q = true → ∀ n, n < 512 → btr S.lo (q * 8) n = true → bt u n = true) (hf : puR sf sf₇ (fun q => B q = true) S.P) : rlK S u (zi + nI (cnt (fun q => B q && !bt mw q) S.P)) sf₇ := by
  obtain ⟨k1, k2, k3, k4⟩ := K9
  refine ⟨fun q hq z n hn y => ?_, fun q hq => ?_, fun q hq z => ?_, ?_⟩
  · rw [hB q (by omega)] at z
    rcases Bool.or_eq_true_iff.mp z with z | z
    · rw [hB n hn, k1 q hq z n hn y]; rfl
    · exact hcl q hq z n hn y
  · rw [hB q (by omega)]
    by_cases hqP : q < S.P
    · have f1 := hf.1 q hqP
      have f2 := k2 q hq
      have e : (sf q = 1 ∨ B q = true) ↔ (bt mw q || B q) = true := by
        rw [Bool.or_eq_true_iff]
        refine or_congr ?_ Iff.rfl
        rcases f2 with ⟨g1, g2⟩ | ⟨g1, g2⟩
        · exact ⟨fun _ => g2, fun _ => g1⟩
        · exact ⟨fun z => absurd (g1.symm.trans z) (by decide), fun z => absurd z g2⟩
      exact f1.elim (fun z => Or.inl ⟨z.1, e.mp z.2⟩) (fun z => Or.inr ⟨z.1, fun y => z.2 (e.mpr y)⟩)
    · rw [hf.2 q (by omega)]
      have e : B q = false := Bool.eq_false_iff.mpr (fun z => hqP (hBP q (by omega) z))
      rw [e, Bool.or_false]
      exact k2 q hq
  · rw [hB q hq] at z
    rcases Bool.or_eq_true_iff.mp z with z | z
    · exact k3 q hq z
    · exact hBP q hq z
  · rw [k4, nI_addc, cnt_congr S.P (fun i hi => hB i (by omega)), cnt_or]
theorem cntP_bt {S : Stk} {mw : Nat → Int64} {sf : Nat → Int32} {B : Nat → Bool} (hP : S.P ≤ 500) (h : fb sf mw 500) {GO : Nat → Prop} (hG : ∀ q, q < S.P → (GO q ↔ B q = true)) : cntP (fun q => GO q ∧ ¬ sf q = 1) S.P = cnt (fun q => B q && !bt mw q) S.P := by
  unfold cntP
  refine cnt_congr _ (fun i hi => ?_)
  refine Bool.eq_iff_iff.mpr ((@decide_eq_true_iff _ (Classical.propDecidable _)).trans ?_)
  show (GO i ∧ ¬ sf i = 1) ↔ _
  rw [Bool.and_eq_true, Bool.not_eq_true', hG i hi]
  refine and_congr Iff.rfl ?_
  rcases h i (by omega) with ⟨g1, g2⟩ | ⟨g1, g2⟩
  · rw [g2]; exact ⟨fun z => absurd g1 z, fun z => by cases z⟩
  · rw [Bool.eq_false_iff.mpr g2]; exact ⟨fun _ => rfl, fun _ z => absurd (g1.symm.trans z) (by decide)⟩
theorem i64_or (x y : Int64) (i : Nat) : (x ||| y).toBitVec.getLsbD i = (x.toBitVec.getLsbD i || y.toBitVec.getLsbD i) := by
  rw [Int64.toBitVec_or, BitVec.getLsbD_or]
theorem i64_an (x y : Int64) (i : Nat) (hi : i < 64) : (x &&& (y ^^^ (-1))).toBitVec.getLsbD i = (x.toBitVec.getLsbD i && !y.toBitVec.getLsbD i) := by
  have e : (-1 : Int64).toBitVec = BitVec.allOnes 64 := by decide
  rw [Int64.toBitVec_and, BitVec.getLsbD_and, Int64.toBitVec_xor, BitVec.getLsbD_xor, e, BitVec.getLsbD_allOnes, decide_eq_true hi, Bool.xor_true]
/-- how many come, as the class counts them -/
theorem bcs_new {S : Stk} {mw aw : Nat → Int64} {o : Nat} (hP : S.P ≤ 500) (ha : ∀ q, q < 512 → btr aw o q = true → q < S.P) : bcs (fun j => aw (o + j) &&& (mw j ^^^ (-1))) 8 = nI (cnt (fun q => btr aw o q && !bt mw q) S.P) := by
  rw [bcs_num]
  refine congrArg nI ?_
  have e : ∀ q, q < 512 → bt (fun j => aw (o + j) &&& (mw j ^^^ (-1))) q = (btr aw o q && !bt mw q) := fun q hq => i64_an _ _ _ (Nat.mod_lt _ (by decide))
  rw [show 64 * 8 = S.P + (512 - S.P) by omega, cnt_add, cnt_zero (512 - S.P) (fun i hi => ?_), Nat.add_zero]
  · exact cnt_congr _ (fun i hi => e i (by omega))
  · rw [e _ (by omega)]
    by_cases z : btr aw o (S.P + i) = true
    · have := ha _ (by omega) z
      omega
    · rw [Bool.eq_false_iff.mpr z]; rfl
theorem bt_btr (aw : Nat → Int64) (q : Nat) : btr aw 0 q = bt aw q := by
  unfold btr bt
  rw [Nat.zero_add]
theorem bt_un8 {mw aw u : Nat → Int64} {o : Nat} (h : ∀ j, j < 8 → u j = mw j ||| aw (o + j)) : ∀ q, q < 512 → bt u q = (bt mw q || btr aw o q) := fun q hq => by
  unfold bt btr
  rw [h _ (by omega)]
  exact i64_or _ _ _
theorem puR.iff {sf sf₇ : Nat → Int32} {GO GO' : Nat → Prop} {n : Nat} (h : puR sf sf₇ GO n) (e : ∀ q, q < n → (GO q ↔ GO' q)) : puR sf sf₇ GO' n := ⟨fun q hq => (h.1 q hq).elim (fun z => Or.inl ⟨z.1, z.2.elim Or.inl (fun y => Or.inr ((e q hq).mp y))⟩) (fun z => Or.inr ⟨z.1, fun y => z.2 (y.elim Or.inl (fun x => Or.inr ((e q hq).mpr x)))⟩), h.2⟩
theorem fb.iff {sf : Nat → Int32} {mw : Nat → Int64} {n q : Nat} (h : fb sf mw n) (hq : q < n) : sf q = 1 ↔ bt mw q = true := by
  rcases h q hq with ⟨g1, g2⟩ | ⟨g1, g2⟩
  · exact ⟨fun _ => g2, fun _ => g1⟩
  · exact ⟨fun z => absurd (g1.symm.trans z) (by decide), fun z => absurd z g2⟩
/-- all of another set -/
theorem pull_N {S : Stk} {mw aw u : Nat → Int64} {zi z2 : Int32} {sg sf sg' : Nat → Int32} (hP : S.P ≤ 500) (K9 : rlK S mw zi sg) (K2 : rlK S aw z2 sf) (h : ∀ j, j < 8 → u j = mw j ||| aw (0 + j)) (hf : puR sg sg' (fun q => sf q = 1) S.P) : rlK S u (zi + bcs (fun j => aw (0 + j) &&& (mw j ^^^ (-1))) 8) sg' ∧ bcs (fun j => aw (0 + j) &&& (mw j ^^^ (-1))) 8 = nI (cntP (fun q => sf q = 1 ∧ ¬ sg q = 1) S.P) := by
  have hG : ∀ q, q < S.P → (sf q = 1 ↔ btr aw 0 q = true) := fun q hq => by rw [bt_btr]; exact K2.2.1.iff (by omega)
  have ha : ∀ q, q < 512 → btr aw 0 q = true → q < S.P := fun q hq z => K2.2.2.1 q hq (by rw [← bt_btr]; exact z)
  have hB := bt_un8 h
  rw [bcs_new hP ha, cntP_bt hP K9.2.1 hG]
  refine ⟨K9.add hP hB ha (fun q hq z n hn y => ?_) (hf.iff hG), rfl⟩
  rw [hB n hn, Bool.or_eq_true_iff]
  refine Or.inr ?_
  rw [bt_btr] at z ⊢
  exact K2.1 q hq z n hn y
theorem sInv.lotr {S : Stk} (I : sInv S) {q n : Nat} (hq : q < 512) (hn : n < 512) (h2 : btr S.lo (q * 8) n = true) : ∀ p, p < S.P → btr S.lo (p * 8) q = true → btr S.lo (p * 8) n = true := by
  intro p
  induction p using Nat.strongRecOn with
  | _ p ih =>
    intro hp h1
    obtain ⟨k, hk, z⟩ := ((I.pi p hp).ln q hq).mp h1
    have hd := ((I.pi p hp).dep k hk).1
    refine ((I.pi p hp).ln n hn).mpr ⟨k, hk, Or.inr ?_⟩
    rcases z with z | z
    · rw [← z]; exact h2
    · exact ih _ hd (by omega) z
theorem cnt_one {b c : Nat → Bool} {k n : Nat} (hk : k < n) (hc : ∀ i, c i = (b i || decide (i = k))) (hb : b k = false) : cnt c n = cnt b n + 1 := by rw [cnt_in hc hb, if_pos hk]
/-- a patch and what it leans on -/
theorem pull_P {S : Stk} {mw m8 u : Nat → Int64} {zi rk zu : Int32} {sg sg' : Nat → Int32} {pp : Nat} (I : sInv S) (K9 : rlK S mw zi sg) (hp : pp < S.P) (h : ∀ j, j < 8 → m8 j = mw j ||| S.lo (pp * 8 + j)) (hu : (bt m8 pp = true ∧ rk = 0 ∧ u = m8 ∧ zu = zi + bcs (fun j => S.lo (pp * 8 + j) &&& (mw j ^^^ (-1))) 8) ∨ (bt m8 pp = false ∧ rk = 1 ∧ u = bt_in m8 pp ∧ zu = zi + bcs (fun j => S.lo (pp * 8 + j) &&& (mw j ^^^ (-1))) 8 + 1)) (hf : puR sg sg' (fun q => q = pp ∨ loS S pp q) S.P) : rlK S u zu sg' ∧ bcs (fun j => S.lo (pp * 8 + j) &&& (mw j ^^^ (-1))) 8 + rk = nI (cntP (fun q => (q = pp ∨ loS S pp q) ∧ ¬ sg q = 1) S.P) := by
  have hP := I.hP
  obtain ⟨B, hBe⟩ : ∃ B : Nat → Bool, B = fun q => btr S.lo (pp * 8) q || decide (q = pp) := ⟨_, rfl⟩
  have hG : ∀ q, q < S.P → ((q = pp ∨ loS S pp q) ↔ B q = true) := fun q hq => by
    rw [hBe]
    simp only [Bool.or_eq_true, decide_eq_true_eq]
    unfold loS
    exact ⟨fun z => z.elim Or.inr (fun y => Or.inl y.2), fun z => z.elim (fun y => Or.inr ⟨by omega, y⟩) Or.inl⟩
  have hlo : ∀ q, q < 512 → btr S.lo (pp * 8) q = true → q < S.P := fun q hq z => Nat.lt_trans (I.lln q hq pp hp z) hp
  have h8 := bt_un8 h
  have hBP : ∀ q, q < 512 → B q = true → q < S.P := fun q hq z => by
    rw [hBe] at z
    simp only [Bool.or_eq_true, decide_eq_true_eq] at z
    rcases z with z | z
    · exact hlo q hq z
    · omega
  have hcn : cnt (fun q => B q && !bt mw q) S.P = cnt (fun q => btr S.lo (pp * 8) q && !bt mw q) S.P + (if bt m8 pp = true then 0 else 1) := by
    by_cases z : bt m8 pp = true
    · rw [if_pos z, Nat.add_zero]
      refine cnt_congr _ (fun i hi => ?_)
      rw [hBe]
      by_cases e : i = pp
      · subst e
        rw [h8 i (by omega)] at z
        simp only [decide_true, Bool.or_true, Bool.true_and]
        revert z
        cases bt mw i <;> cases btr S.lo (i * 8) i <;> simp
      · simp only [e, decide_false, Bool.or_false]
    · rw [if_neg z]
      have z0 := Bool.eq_false_iff.mpr z
      rw [h8 pp (by omega)] at z0
      obtain ⟨z1, z2⟩ := Bool.or_eq_false_iff.mp z0
      refine cnt_one hp (fun i => ?_) (by rw [z2]; rfl)
      rw [hBe]
      by_cases e : i = pp
      · subst e
        simp only [z1, z2, decide_true]; rfl
      · simp only [e, decide_false, Bool.or_false]
  have hB : ∀ q, q < 512 → bt u q = (bt mw q || B q) := fun q hq => by
    rw [hBe]
    rcases hu with ⟨a1, _, a3, _⟩ | ⟨a1, _, a3, _⟩
    · rw [a3, h8 q hq]
      by_cases e : q = pp
      · subst e
        rw [h8 q hq] at a1
        rw [a1]
        simp only [decide_true, Bool.or_true]
      · simp only [e, decide_false, Bool.or_false]
    · rw [a3, bt_in_at, h8 q hq, Bool.or_assoc]
  have hk := K9.add hP hB hBP (fun q hq z n hn y => by
    rw [hB n hn, Bool.or_eq_true_iff]
    refine Or.inr ?_
    rw [hBe] at z ⊢
    simp only [Bool.or_eq_true, decide_eq_true_eq] at z ⊢
    refine Or.inl ?_
    rcases z with z | z
    · exact I.lotr (by omega) hn y pp hp z
    · rw [← z]; exact y) (hf.iff hG)
  have hb := bcs_new (mw := mw) (aw := S.lo) (o := pp * 8) hP hlo
  rw [cntP_bt hP K9.2.1 hG, hcn, hb]
  rw [hcn] at hk
  rcases hu with ⟨a1, a2, _, a4⟩ | ⟨a1, a2, _, a4⟩
  · rw [if_pos a1, Nat.add_zero] at hk ⊢
    rw [a4, a2, hb]
    exact ⟨hk, Int32.add_zero _⟩
  · rw [if_neg (by rw [a1]; decide)] at hk ⊢
    rw [a4, a2, hb]
    rw [← nI_p1] at hk ⊢
    exact ⟨by rw [Int32.add_assoc]; exact hk, rfl⟩
/-- whether a patch can be dropped -/
theorem dep_lean {S : Stk} {mw : Nat → Int64} {pp : Nat} (I : sInv S) (C : clo S mw) (hp : pp < 512) : (∃ q, q < S.P ∧ bt mw q = true ∧ btr S.lo (q * 8) pp = true) ↔ ∃ q, q < S.P ∧ bt mw q = true ∧ ∃ k, S.FD q ≤ k ∧ k < S.FD (q + 1) ∧ S.DP k = pp := by
  constructor
  · rintro ⟨q, h1, h2, h3⟩
    induction q using Nat.strongRecOn with
    | _ q ih =>
      obtain ⟨k, hk, z⟩ := ((I.pi q h1).ln pp hp).mp h3
      have e := (I.pi q h1).fd
      have hd := ((I.pi q h1).dep k hk).1
      rcases z with z | z
      · exact ⟨q, h1, h2, S.FD q + k, by omega, by omega, z.symm⟩
      · have hm : btr S.lo (q * 8) (S.dp q k) = true := ((I.pi q h1).ln _ (by have := I.hP; omega)).mpr ⟨k, hk, Or.inl rfl⟩
        exact ih _ hd (by omega) (C q h1 h2 _ (by have := I.hP; omega) hm) z
  · rintro ⟨q, h1, h2, k, h3, h4, h5⟩
    have e := (I.pi q h1).fd
    refine ⟨q, h1, h2, ((I.pi q h1).ln pp hp).mpr ⟨k - S.FD q, by omega, Or.inl ?_⟩⟩
    show pp = S.DP (S.FD q + (k - S.FD q))
    rw [show S.FD q + (k - S.FD q) = k by omega]
    exact h5.symm
theorem i64_a2 (x y : Int64) (i : Nat) : (x &&& y).toBitVec.getLsbD i = (x.toBitVec.getLsbD i && y.toBitVec.getLsbD i) := by
  rw [Int64.toBitVec_and, BitVec.getLsbD_and]
/-- how many of a set lean on a patch -/
theorem bcs_lb {S : Stk} {mw : Nat → Int64} {pp : Nat} (I : sInv S) (hp : pp < 500) : bcs (fun i => S.lb (pp * 8 + i) &&& mw i) 8 = nI (cnt (fun q => btr S.lo (q * 8) pp && bt mw q) S.P) := by
  have hP := I.hP
  rw [bcs_num]
  refine congrArg nI ?_
  have e : ∀ q, q < 512 → bt (fun i => S.lb (pp * 8 + i) &&& mw i) q = ((decide (q < S.P) && btr S.lo (q * 8) pp) && bt mw q) := fun q hq => by
    rw [← I.lbz pp q hp hq]
    exact i64_a2 _ _ _
  rw [show 64 * 8 = S.P + (512 - S.P) by omega, cnt_add, cnt_zero (512 - S.P) (fun i hi => ?_), Nat.add_zero]
  · exact cnt_congr _ (fun i hi => by rw [e i (by omega), decide_eq_true hi, Bool.true_and])
  · rw [e _ (by omega), decide_eq_false (by omega)]
    rfl
theorem bcs_lo {S : Stk} {pp : Nat} (I : sInv S) (hp : pp < S.P) : bcs (fun i => S.lo (pp * 8 + i)) 8 = nI (cnt (btr S.lo (pp * 8)) 500) := by
  have hP := I.hP
  rw [bcs_num]
  refine congrArg nI ?_
  rw [show 64 * 8 = 500 + 12 from rfl, cnt_add, cnt_zero 12 (fun i hi => ?_), Nat.add_zero]
  · rfl
  · show btr S.lo (pp * 8) (500 + i) = false
    refine Bool.eq_false_iff.mpr (fun z => ?_)
    have := I.lln (500 + i) (by omega) pp hp z
    omega

/-! 99zzzcg.answers.lean.txt -/
/-! the answers of both -/
theorem rlK.drop {S : Stk} {mw : Nat → Int64} {zz : Nat} {sf : Nat → Int32} {p : Nat} (I : sInv S) (K9 : rlK S mw (nI zz) sf) (hzz : zz < 1000) (hp : p < S.P) (h1 : bt mw p = true) (hn : ¬ ∃ q, q < S.P ∧ bt mw q = true ∧ btr S.lo (q * 8) p = true) : rlK S (bt_un mw p) (nI (zz - 1)) (upd sf p 0) := by
  obtain ⟨k1, k2, k3, k4⟩ := K9
  have hP := I.hP
  have dn : ∀ q, bt (bt_un mw p) q = true → bt mw q = true ∧ ¬ q = p := fun q z => by
    rw [bt_un_at] at z
    obtain ⟨z1, z2⟩ := Bool.and_eq_true_iff.mp z
    exact ⟨z1, fun e => by rw [e, decide_eq_true rfl] at z2; cases z2⟩
  refine ⟨fun q hq z n hn2 y => ?_, fun q hq => ?_, fun q hq z => k3 q hq (dn q z).1, ?_⟩
  · have hq2 := dn q z
    have hm := k1 q hq hq2.1 n hn2 y
    rw [bt_un_at, hm, decide_eq_false (fun e => hn ⟨q, hq, hq2.1, by rw [← e]; exact y⟩)]
    rfl
  · by_cases e : q = p
    · subst e
      rw [upd_eq]
      exact Or.inr ⟨rfl, fun z => (dn q z).2 rfl⟩
    · rw [upd_ne _ e]
      have e2 : bt (bt_un mw p) q = bt mw q := by rw [bt_un_at, decide_eq_false e, Bool.not_false, Bool.and_true]
      rw [e2]
      exact k2 q hq
  · have h5 := cnt_un (bt_un_at mw p) h1 S.P
    rw [if_pos hp] at h5
    have h6 := cnt_le (bt mw) S.P
    have h7 := (nI_eq (a := zz) (b := cnt (bt mw) S.P) (by omega) (by omega)).mp k4
    exact congrArg nI (by omega)
theorem cnt_fl {sf : Nat → Int32} {mw : Nat → Int64} (h : fb sf mw 500) {n : Nat} (hn : n ≤ 500) : fgN sf n = cnt (bt mw) n := by
  unfold fgN
  refine cnt_congr _ (fun i hi => ?_)
  unfold fgB
  rcases h i (by omega) with ⟨g1, g2⟩ | ⟨g1, g2⟩
  · rw [g1, g2]; rfl
  · rw [g1, Bool.eq_false_iff.mpr g2]; rfl
theorem depD_iff {S : Stk} {mw : Nat → Int64} {sf : Nat → Int32} {pp : Nat} (I : sInv S) (C : clo S mw) (F : fb sf mw 500) (hp : pp < 512) : depD sf S.P S.FD S.DP pp ↔ ∃ q, q < S.P ∧ bt mw q = true ∧ btr S.lo (q * 8) pp = true := by
  have hP := I.hP
  rw [dep_lean I C hp]
  unfold depD
  exact ⟨fun ⟨q, h1, h2, h3⟩ => ⟨q, h1, (F.iff (by omega)).mp h2, h3⟩, fun ⟨q, h1, h2, h3⟩ => ⟨q, h1, (F.iff (by omega)).mpr h2, h3⟩⟩
theorem bcs_z {S : Stk} {mw : Nat → Int64} {pp : Nat} (I : sInv S) (hp : pp < 500) : bcs (fun i => S.lb (pp * 8 + i) &&& mw i) 8 ≤ 0 ↔ ¬ ∃ q, q < S.P ∧ bt mw q = true ∧ btr S.lo (q * 8) pp = true := by
  rw [bcs_lb I hp]
  have hP := I.hP
  have hc := cnt_le (fun q => btr S.lo (q * 8) pp && bt mw q) S.P
  have e : nI (cnt (fun q => btr S.lo (q * 8) pp && bt mw q) S.P) ≤ 0 ↔ cnt (fun q => btr S.lo (q * 8) pp && bt mw q) S.P = 0 := by
    constructor
    · intro z
      have z2 := nI_pos' (n := cnt (fun q => btr S.lo (q * 8) pp && bt mw q) S.P) (by omega)
      exact (nI_eq (b := 0) (by omega) (by decide)).mp (Int32.le_antisymm z z2)
    · intro z
      rw [z]; decide
  rw [e]
  constructor
  · rintro z ⟨q, h1, h2, h3⟩
    have := cnt_of (b := fun q => btr S.lo (q * 8) pp && bt mw q) h1 (by rw [h2, h3]; rfl)
    omega
  · intro z
    refine cnt_zero _ (fun i hi => Bool.eq_false_iff.mpr (fun y => ?_))
    obtain ⟨y1, y2⟩ := Bool.and_eq_true_iff.mp y
    exact z ⟨i, hi, y2, y1⟩
theorem has_1 {S : Stk} {mw : Nat → Int64} {sf : Nat → Int32} {pp : Nat} (I : sInv S) (F : fb sf mw 500) (hp : pp < S.P) : bcs (fun i => S.lb (pp * 8 + i) &&& mw i) 8 = nI (cntP (fun q => pp < q ∧ sf q = 1 ∧ loS S q pp) S.P) := by
  have hP := I.hP
  rw [bcs_lb I (by omega)]
  refine congrArg nI ?_
  unfold cntP
  refine cnt_congr _ (fun i hi => ?_)
  refine Bool.eq_iff_iff.mpr (Iff.trans ?_ (@decide_eq_true_iff _ (Classical.propDecidable _)).symm)
  show _ ↔ (pp < i ∧ sf i = 1 ∧ loS S i pp)
  rw [Bool.and_eq_true_iff, F.iff (show i < 500 by omega)]
  unfold loS
  exact ⟨fun z => ⟨I.lln pp (by omega) i hi z.1, z.2, by omega, z.1⟩, fun z => ⟨z.2.2.2, z.2.1⟩⟩
theorem has_2 {S : Stk} {mk : Nat → Int32} {pp : Nat} (I : sInv S) (hp : pp < S.P) (h : fgR mk 500 (loS S pp)) : bcs (fun i => S.lo (pp * 8 + i)) 8 = nI (fgN mk 500) := by
  rw [bcs_lo I hp]
  refine congrArg nI ?_
  unfold fgN
  refine cnt_congr _ (fun i hi => ?_)
  unfold fgB
  rcases h i hi with ⟨g1, g2⟩ | ⟨g1, g2⟩
  · rw [g1, g2.2]; rfl
  · rw [g1]
    exact Bool.eq_false_iff.mpr (fun z => g2 ⟨by omega, z⟩)
/-- the members by rising hash, as the reference has them -/
theorem mrp.mbS {S : Stk} {Z : Mda} {G : Gr} (M : mrp S Z G) (I : sInv S) (mw : Nat → Int64) : srt (hsG G.H) (mbL S mw S.P) := by
  rw [mbL_nd]
  exact M.ndS I _
theorem mbL_fl {S : Stk} {mw : Nat → Int64} {sf : Nat → Int32} (I : sInv S) (F : fb sf mw 500) (x : Nat) : x ∈ mbL S mw S.P ↔ (x < S.P ∧ sf x = 1) := by
  have hP := I.hP
  rw [mbL_in I]
  exact ⟨fun z => ⟨z.1, (F.iff (by omega)).mpr z.2⟩, fun z => ⟨z.1, (F.iff (by omega)).mp z.2⟩⟩
theorem state_eq {S : Stk} {Z : StkA} {Zm : Mda} {G : Gr} {mw : Nat → Int64} (I : sInv S) (R : rep S Z) (M : mrp S Zm G) {j : Nat} (hj : j < 32) : sh_outb (dg (catH (fun p i => Z.hs (p * 32 + i)) (mbL S mw S.P)) 0 (32 * (mbL S mw S.P).length)) j = sh_outb (dg (catH G.H (mbL S mw S.P)) 0 (32 * (mbL S mw S.P).length)) j := by
  refine sh_outb_congr (dg_congr (fun k hk => ?_)) hj
  rw [Nat.zero_add]
  refine catH_cg (fun x hx i hi => ?_) k (by omega)
  have hx' := ((mbL_in I).mp hx).1
  rw [R.hs _ (by omega), M.2.2.2.2.1.2.2 x i hx' hi]
theorem mrp.hby {S : Stk} {Z : Mda} {G : Gr} (M : mrp S Z G) (I : sInv S) : ∀ p, p < S.P → ∀ j, j < 32 → by1 (G.H p j) = G.H p j := fun p hp j hj => by
  rw [M.2.2.2.2.1.2.2 p j hp hj, (I.pi p hp).hs j hj]
  exact by1_sh _ _
theorem mrp.hdj {S : Stk} {Z : Mda} {G : Gr} (M : mrp S Z G) (I : sInv S) : ∀ p q, p < S.P → q < S.P → sq (G.H p) 0 32 = sq (G.H q) 0 32 → p = q := fun p q hp hq e => by
  rw [M.hsq hp, M.hsq hq] at e
  obtain ⟨a, a1, a2⟩ := I.sur p hp
  obtain ⟨b, b1, b2⟩ := I.sur q hq
  rcases Nat.lt_trichotomy a b with z | z | z
  · have := I.up a b z b1
    rw [a2, b2, e] at this
    exact absurd this (List.lt_irrefl _)
  · rw [← a2, ← b2, z]
  · have := I.up b a z a1
    rw [a2, b2, e] at this
    exact absurd this (List.lt_irrefl _)
theorem b8_inj {x y : Int32} (h1 : by1 x = x) (h2 : by1 y = y) (e : b8 x = b8 y) : x = y := by
  have e1 := by1_b8 h1
  have e2 := by1_b8 h2
  rw [e] at e1
  exact Int32.toInt_inj.mp (e1.trans e2.symm)
theorem sq_eq {f g : Nat → Int32} : ∀ (n i j : Nat), sq f i n = sq g j n → ∀ k, k < n → b8 (f (i + k)) = b8 (g (j + k))
  | 0, _, _, _, k, hk => absurd hk (Nat.not_lt_zero _)
  | n + 1, i, j, h, k, hk => by
    obtain ⟨h1, h2⟩ := List.cons.inj h
    match k with
    | 0 => exact h1
    | k + 1 =>
      have := sq_eq n (i + 1) (j + 1) h2 k (by omega)
      rw [show i + (k + 1) = i + 1 + k by omega, show j + (k + 1) = j + 1 + k by omega]
      exact this
theorem sq_b8 {f g : Nat → Int32} : ∀ (n i j : Nat), (∀ k, k < n → b8 (f (i + k)) = b8 (g (j + k))) → sq f i n = sq g j n
  | 0, _, _, _ => rfl
  | n + 1, i, j, h => by
    show b8 (f i) :: sq f (i + 1) n = b8 (g j) :: sq g (j + 1) n
    have h0 := h 0 (by omega)
    rw [Nat.add_zero, Nat.add_zero] at h0
    rw [h0, sq_b8 n (i + 1) (j + 1) (fun k hk => by
      have := h (k + 1) (by omega)
      rw [show i + 1 + k = i + (k + 1) by omega, show j + 1 + k = j + (k + 1) by omega]
      exact this)]
/-- a naming lies in the stock's bytes -/
theorem sInv.nmL {S : Stk} (I : sInv S) {mw : Nat → Int64} {c : Nat} (hc : c ∈ namL S mw) : c < S.FC S.P ∧ (S.f (S.CA c) = 0 ∨ S.f (S.CA c) = 1) ∧ isNm S.f (S.CA c) := by
  have h1 := I.namm hc
  have h2 : thB S mw c = true := (List.mem_filter.mp hc).2
  have h3 : isNm S.f (S.CA c) := by
    unfold thB at h2
    exact nmB_iff.mp (Bool.and_eq_true_iff.mp h2).1
  exact ⟨h1, h3.elim Or.inl (fun z => Or.inr z.1), h3⟩
theorem sInv.nmIn9 {S : Stk} (I : sInv S) {mw : Nat → Int64} {c : Nat} (hc : c ∈ namL S mw) : nmIn S c := by
  obtain ⟨h1, h2, h3⟩ := I.nmL hc
  obtain ⟨a1, a2, a3⟩ := I.nmw h1 h2
  have b1 := I.frP
  have b2 := I.fcP
  have b3 := I.cfl h1
  have b4 := I.nfP
  have b5 := (I.cW h1).1
  unfold ntS at a3
  exact ⟨by omega, by omega, by omega, by omega, a2, a1⟩
/-- names that two files share -/
theorem mrp.shr {S : Stk} {Zc : StkA} {Z : Mda} {G : Gr} {sf : Nat → Int32} {mw : Nat → Int64} (M : mrp S Z G) (B : rlS S Zc) (F : fb sf mw S.P) {y : Nat} : shF sf (S.FC S.P) S.pc (kdS S) S.CF (ocS S) (nsS S) (ntS S) (oxZ Z) Z.by₇ y ↔ shR S (namL S mw) (namL S mw).length y := by
  have I := B.1
  have b1 := I.frP
  have byq : ∀ i, i < S.FR S.P → by1 (S.f i) = S.f i := fun i hi => B.2.2.1 i (by omega)
  have key : ∀ c d, c ∈ namL S mw → d ∈ namL S mw → ((nsS S c = nsS S d ∧ sq Z.by₇ (ntS S c) (nsS S c) = sq Z.by₇ (ntS S d) (nsS S c)) ↔ nmE S.f (nmAt S.f (S.CA c)) (nmAt S.f (S.CA d)) (b8 (S.f (nmAt S.f (S.CA c))))) := fun c d hc hd => by
    obtain ⟨c1, c2, c3⟩ := I.nmL hc
    obtain ⟨d1, d2, d3⟩ := I.nmL hd
    obtain ⟨x1, x2, x3⟩ := I.nmw c1 c2
    obtain ⟨y1, y2, y3⟩ := I.nmw d1 d2
    have eN : b8 (S.f (nmAt S.f (S.CA c))) = nsS S c := rfl
    rw [eN]
    unfold nmE
    unfold ntS at x3 y3 ⊢
    constructor
    · rintro ⟨e1, e2⟩ i hi
      match i with
      | 0 =>
        rw [Nat.add_zero, Nat.add_zero, x2, y2, e1]
      | i + 1 =>
        have e3 := sq_eq _ _ _ e2 i (by omega)
        rw [M.1 _ (by omega), M.1 _ (by omega)] at e3
        have e4 := b8_inj (byq _ (by omega)) (byq _ (by omega)) e3
        rw [show nmAt S.f (S.CA c) + (i + 1) = nmAt S.f (S.CA c) + 1 + i by omega, show nmAt S.f (S.CA d) + (i + 1) = nmAt S.f (S.CA d) + 1 + i by omega]
        exact e4
    · intro h
      have e0 := h 0 (Nat.zero_le _)
      rw [Nat.add_zero, Nat.add_zero, x2, y2] at e0
      have e1 := (nI_eq (by omega) (by omega)).mp e0
      refine ⟨e1, sq_b8 _ _ _ (fun k hk => ?_)⟩
      have e2 := h (k + 1) (by omega)
      rw [M.1 _ (by omega), M.1 _ (by omega), show nmAt S.f (S.CA c) + 1 + k = nmAt S.f (S.CA c) + (k + 1) by omega, show nmAt S.f (S.CA d) + 1 + k = nmAt S.f (S.CA d) + (k + 1) by omega, e2]
  constructor
  · rintro ⟨c, d, h1, h2, h3, h4, h5, h6, h7⟩
    obtain ⟨g1, g2⟩ := (M.nam I F).mp h1
    obtain ⟨g3, _⟩ := (M.nam I F (y := S.CF d) (c := d)).mp ⟨h2, h3, rfl, h7⟩
    obtain ⟨p, p1, p2⟩ := mem_getD g1
    obtain ⟨q, q1, q2⟩ := mem_getD g3
    refine ⟨p, q, p1, q1, ?_, by rw [p2]; exact g2, by rw [q2]; exact h4⟩
    unfold smN
    rw [p2, q2]
    exact (key c d g1 g3).mp h6
  · rintro ⟨p, q, p1, q1, h1, h2, h3⟩
    have g1 := getD_mem p1
    have g3 := getD_mem q1
    unfold smN at h1
    have n1 := (M.nam I F (y := y)).mpr ⟨g1, h2⟩
    have n2 := (M.nam I F (y := S.CF ((namL S mw).getD q 0))).mpr ⟨g3, rfl⟩
    refine ⟨_, _, n1, n2.1, n2.2.1, h3, n2.2.2.2.2.1, (key _ _ g1 g3).mpr h1, n2.2.2.2⟩
/-- how many of a list -/
theorem cntP_fil {L : List Nat} {p : Nat → Bool} {Q : Nat → Prop} (h : ∀ i, i < L.length → (Q i ↔ p (L.getD i 0) = true)) : cntP Q L.length = (L.filter p).length := by
  unfold cntP
  have e := cnt_take (b := fun a => @decide (Q a) (Classical.propDecidable _)) (p := p) (L := L) (fun a ha => Bool.eq_iff_iff.mpr ((@decide_eq_true_iff _ (Classical.propDecidable _)).trans (h a ha))) L.length (Nat.le_refl _)
  rw [e, List.take_length]
theorem abt_2 {S : Stk} {Z : Mda} {G : Gr} {sf : Nat → Int32} {mw : Nat → Int64} (M : mrp S Z G) (I : sInv S) (F : fb sf mw S.P) : cntP (fun i => ∃ NL, (srt (kyG G.H S.pc) NL ∧ ∀ c, c ∈ NL ↔ nmS sf (S.FC S.P) S.pc (kdS S) S.CF (ocS S) (nsS S) (oxZ Z) ((filL S mw).getD i 0) (S.FC S.P) c) ∧ 1 < NL.length) (filL S mw).length = ((filL S mw).filter (manyN S (namL S mw))).length := by
  refine cntP_fil (fun i hi => ?_)
  unfold manyN
  rw [decide_eq_true_iff]
  constructor
  · rintro ⟨NL, ⟨h1, h2⟩, h3⟩
    have e := M.nml I F h1 h2
    rw [e] at h3
    exact h3
  · intro h
    refine ⟨(namL S mw).filter (ofF S ((filL S mw).getD i 0)), ⟨M.nmq I mw _, fun c => ?_⟩, h⟩
    rw [M.nam I F, List.mem_filter]
    unfold ofF
    rw [beq_iff_eq]
theorem abt_3 {S : Stk} {Zc : StkA} {Z : Mda} {G : Gr} {sf : Nat → Int32} {mw : Nat → Int64} (M : mrp S Z G) (B : rlS S Zc) (F : fb sf mw S.P) : cntP (fun i => shF sf (S.FC S.P) S.pc (kdS S) S.CF (ocS S) (nsS S) (ntS S) (oxZ Z) Z.by₇ ((filL S mw).getD i 0)) (filL S mw).length = ((filL S mw).filter (shB S (namL S mw))).length := cntP_fil (fun i hi => (M.shr B F).trans shB_iff.symm)

/-! 99zzzch.worked.lean.txt -/
/-! views, lists and texts that were worked out -/
/-- what the reference's list of files is -/
def flQ (S : Stk) (Zm : Mda) (G : Gr) (sf : Nat → Int32) : List Nat → Prop := fun L => srt (fkG G.H S.pc (fhS S)) L ∧ ∀ x, x ∈ L ↔ flS sf (S.FC S.P) S.pc (kdS S) S.CF (ocS S) (nsS S) (oxZ Zm) (fhS S) (S.NFp S.P) x
theorem flQ.eq {S : Stk} {Zm : Mda} {G : Gr} {sf : Nat → Int32} {mw : Nat → Int64} (M : mrp S Zm G) (I : sInv S) (F : fb sf mw S.P) {L : List Nat} (h : flQ S Zm G sf L) : L = filL S mw := M.fls I F h.1 h.2
theorem srt.nd {R : Nat → Nat → Prop} (hi : ∀ a, ¬ R a a) {L : List Nat} (h : srt R L) : L.Nodup := by
  rw [srt_pw] at h
  refine List.Pairwise.imp (S := fun a b => a ≠ b) ?_ h
  intro a b z e
  rw [← e] at z
  exact hi a z
theorem mrp.fln {S : Stk} {Zm : Mda} {G : Gr} {sf : Nat → Int32} {mw : Nat → Int64} (M : mrp S Zm G) (I : sInv S) (F : fb sf mw S.P) : (filL S mw).length ≤ S.NFp S.P := by
  have h := nd_sub (A := filL S mw) (B := List.range (S.NFp S.P)) (srt.nd (R := fkG G.H S.pc (fhS S)) (fun a => kyG.ir (fhS S a)) (M.flq I mw)) (fun x hx => List.mem_range.mpr ((M.fil I F).mpr hx).1)
  rw [List.length_range] at h
  exact h
/-- what a list contract wants of what is listed -/
theorem rlL.ca {S : Stk} {Zm : Mda} {G : Gr} {sf : Nat → Int32} {mw : Nat → Int64} (M : mrp S Zm G) (I : sInv S) (F : fb sf mw S.P) {ls lc lt : Nat → Int32} {k sp : Nat} (V : rlL S mw ls lc lt k sp) : ls k = nI sp → lc k = nI (filL S mw).length ∧ arrL lt (filL S mw) ∧ srt (fkG G.H S.pc (fhS S)) (filL S mw) ∧ (∀ x, x ∈ filL S mw ↔ flS sf (S.FC S.P) S.pc (kdS S) S.CF (ocS S) (nsS S) (oxZ Zm) (fhS S) (S.NFp S.P) x) ∧ (filL S mw).length ≤ S.NFp S.P := fun z => ⟨(V.2 z).1, (V.2 z).2, M.flq I mw, fun x => (M.fil I F).symm, M.fln I F⟩
theorem rlL.new {S : Stk} {Zm : Mda} {G : Gr} {sf : Nat → Int32} {mw : Nat → Int64} (M : mrp S Zm G) (I : sInv S) (F : fb sf mw S.P) {ls lc lt ls' lc₇ lt₇ : Nat → Int32} {r9 sp NF : Nat} {FL : List Nat} (V : rlL S mw ls lc lt r9 sp) (h : lcA (flQ S Zm G sf) ls lc lt ls' lc₇ lt₇ r9 sp NF FL) : rlL S mw ls' lc₇ lt₇ r9 sp := by
  refine ⟨?_, fun z => ?_⟩
  · rcases h.2.1 with e | e
    · rw [e]; exact V.1
    · exact ⟨sp, Nat.le_refl _, e⟩
  · obtain ⟨a1, a2, a3, _⟩ := h.2.2 z
    have e := a3.eq M I F
    rw [e] at a1 a2
    exact ⟨a1, a2⟩
theorem rlL.old {S : Stk} {Q : List Nat → Prop} {mw : Nat → Int64} {ls lc lt l9 ls' lc₇ lt₇ : Nat → Int32} {r9 k sp NF : Nat} {FL : List Nat} (hk : ¬ k = r9) (V : rlL S mw ls lc l9 k sp) (h : lcA Q ls lc lt ls' lc₇ lt₇ r9 sp NF FL) : rlL S mw ls' lc₇ l9 k sp := by
  obtain ⟨e1, e2⟩ := h.1 k hk
  unfold rlL
  rw [e1, e2]
  exact V
theorem rlL.all {S : Stk} {Zm : Mda} {G : Gr} {SF LT : Nat → Nat → Int32} {MW : Nat → Nat → Int64} {ZI : Nat → Int32} (M : mrp S Zm G) (I : sInv S) (K9 : ∀ k, k < 8 → rlK S (MW k) (ZI k) (SF k)) {ls lc ls' lc₇ lt₇ : Nat → Int32} {r9 sp NF : Nat} {FL : List Nat} (hr : r9 < 8) (V : ∀ k, k < 8 → rlL S (MW k) ls lc (LT k) k sp) (h : lcA (flQ S Zm G (SF r9)) ls lc (LT r9) ls' lc₇ lt₇ r9 sp NF FL) : ∀ k, k < 8 → rlL S (MW k) ls' lc₇ (stN LT r9 lt₇ k) k sp := fun k hk => by
  have hP := I.hP
  by_cases e : k = r9
  · subst e
    rw [stN_eq]
    exact (V k hk).new M I ((K9 k hk).2.1.mono hP) h
  · rw [stN_ne _ _ e]
    exact (V k hk).old e h
/-- the place of a file -/
theorem fi_Y {S : Stk} {Zm : Mda} {G : Gr} {sf : Nat → Int32} {mw : Nat → Int64} (M : mrp S Zm G) (I : sInv S) (F : fb sf mw S.P) {p2 : Int32} {y k : Nat} (hk : k < (filL S mw).length) (e : p2 = nI k) (h : fiY (flQ S Zm G sf) p2 y) : y = (filL S mw).getD k 0 := by
  obtain ⟨L, k', h1, h2, h3, h4⟩ := h
  have e1 := h1.eq M I F
  have l1 := M.fln I F
  have l2 := I.nfP
  rw [e1] at h3 h4
  have e2 := (nI_eq (a := k) (b := k') (by omega) (by omega)).mp (e.symm.trans h2)
  rw [h4, e2]
theorem fi_N {S : Stk} {Zm : Mda} {G : Gr} {sf : Nat → Int32} {mw : Nat → Int64} (M : mrp S Zm G) (I : sInv S) (F : fb sf mw S.P) {p2 : Int32} {k : Nat} (hk : k < (filL S mw).length) (e : p2 = nI k) (h : fiN (flQ S Zm G sf) p2) : False := by
  have l1 := M.fln I F
  have l2 := I.nfP
  rcases h with z | ⟨L, k', h1, h2, h3, h4⟩
  · rw [e] at z; exact nI_pos (by omega) z
  · have e1 := h1.eq M I F
    rw [e1] at h3
    have e2 := (nI_eq (a := k) (b := k') (by omega) (by omega)).mp (e.symm.trans h2)
    omega
theorem fi_X {S : Stk} {Zm : Mda} {G : Gr} {sf : Nat → Int32} {mw : Nat → Int64} (M : mrp S Zm G) (I : sInv S) (F : fb sf mw S.P) {p2 : Int32} {y : Nat} (hn : ¬ ∃ n : Nat, n < (filL S mw).length ∧ p2 = nI n) (h : fiY (flQ S Zm G sf) p2 y) : False := by
  obtain ⟨L, k', h1, h2, h3, h4⟩ := h
  have e1 := h1.eq M I F
  rw [e1] at h3
  exact hn ⟨k', h3, h2⟩
/-! the graph -/
theorem mrp.gInE {S : Stk} {sf : Nat → Int32} {mw : Nat → Int64} (I : sInv S) (F : fb sf mw S.P) (y : Nat) : gIn sf (S.NLp S.P) S.pc S.CF (lcS S) y = fun x => x ∈ rowL S mw y := funext (fun x => propext (mrp.row I F).symm)
theorem mrp.gDeE {S : Stk} {Zm : Mda} {G : Gr} {sf : Nat → Int32} {mw : Nat → Int64} (M : mrp S Zm G) (I : sInv S) (F : fb sf mw S.P) (y : Nat) : gDe sf (S.FC S.P) S.pc (kdS S) S.CF (lcS S) Zm.on y = deG S mw y := funext (fun l => propext (M.del I F).symm)
theorem mrp.gEdE {S : Stk} {Zm : Mda} {G : Gr} {sf : Nat → Int32} {mw : Nat → Int64} (M : mrp S Zm G) (I : sInv S) (F : fb sf mw S.P) (y : Nat) : gEd sf (S.FC S.P) S.pc (kdS S) S.CF (lcS S) S.CL (nLn S) Zm.on Zm.tw y = egS S mw y := funext (fun l => funext (fun m => propext (M.edg I F).symm))
/-- what is worked out of file y -/
def wkZ (S : Stk) (Zm : Mda) (G : Gr) (sf : Nat → Int32) : Nat → Wku → Prop := fun y X => wkQ G.H S.pc (lcS S) (gIn sf (S.NLp S.P) S.pc S.CF (lcS S) y) (gDe sf (S.FC S.P) S.pc (kdS S) S.CF (lcS S) Zm.on y) (gEd sf (S.FC S.P) S.pc (kdS S) S.CF (lcS S) S.CL (nLn S) Zm.on Zm.tw y) X.W X.pl X.de X.mb X.tx X.ML X.T X.U X.mq X.kk
theorem wkZ.in {S : Stk} {Zm : Mda} {G : Gr} {sf : Nat → Int32} {mw : Nat → Int64} (M : mrp S Zm G) (I : sInv S) (F : fb sf mw S.P) {y : Nat} {X : Wku} (h : wkZ S Zm G sf y X) : wkQ G.H S.pc (lcS S) (fun x => x ∈ rowL S mw y) (deG S mw y) (egS S mw y) X.W X.pl X.de X.mb X.tx X.ML X.T X.U X.mq X.kk := by
  unfold wkZ at h
  rw [mrp.gInE I F, M.gDeE I F, M.gEdE I F] at h
  exact h
/-- what a work contract wants of what was worked out -/
theorem rlW.cw {S : Stk} {Zm : Mda} {G : Gr} {SF : Nat → Nat → Int32} {MW : Nat → Nat → Int64} (M : mrp S Zm G) (I : sInv S) {r9 sp : Nat} (hr : r9 < 8) (F : fb (SF r9) (MW r9) S.P) {wst wrp wfl : Int32} {pl de mb tx : Nat → Int32} {U mq kk : Nat} {ML T : List Nat} (h : ∀ k y, k < 8 → y < 40000 → wst = nI sp → wrp = nI k → wfl = nI y → wkQ G.H S.pc (lcS S) (fun x => x ∈ rowL S (MW k) y) (deG S (MW k) y) (egS S (MW k) y) G.W pl de mb tx ML T U mq kk) : ∀ y9, y9 < 40000 → wst = nI sp → wrp = nI r9 → wfl = nI y9 → wkQ G.H S.pc (lcS S) (gIn (SF r9) (S.NLp S.P) S.pc S.CF (lcS S) y9) (gDe (SF r9) (S.FC S.P) S.pc (kdS S) S.CF (lcS S) Zm.on y9) (gEd (SF r9) (S.FC S.P) S.pc (kdS S) S.CF (lcS S) S.CL (nLn S) Zm.on Zm.tw y9) G.W pl de mb tx ML T U mq kk := fun y hy z1 z2 z3 => by
  rw [mrp.gInE I F, M.gDeE I F, M.gEdE I F]
  exact h r9 y hr hy z1 z2 z3
theorem rlW.new {S : Stk} {Zm : Mda} {G : Gr} {SF : Nat → Nat → Int32} {MW : Nat → Nat → Int64} (M : mrp S Zm G) (I : sInv S) {r9 sp : Nat} (hr : r9 < 8) (F : fb (SF r9) (MW r9) S.P) {wst wrp wfl w1 q1 f1 : Int32} {pl de mb sk lf be tx : Nat → Int32} {E0 : Nat → Nat → Int32} {U mq kk : Nat} {ML T : List Nat} {X : Wku} (V : rlW S G MW sp wst wrp wfl pl de mb tx U mq kk) (h0 : ∀ k y, k < 8 → y < 40000 → wst = nI sp → wrp = nI k → wfl = nI y → wkQ G.H S.pc (lcS S) (fun x => x ∈ rowL S (MW k) y) (deG S (MW k) y) (egS S (MW k) y) G.W pl de mb tx ML T U mq kk) (h : wkP (wkZ S Zm G (SF r9)) (Wku.mk pl de mb E0 G.W sk lf be tx ML T U mq kk) X wst wrp wfl w1 q1 f1 sp r9) : rlW S ((G.wE X.E).wW X.W) MW sp w1 q1 f1 X.pl X.de X.mb X.tx X.U X.mq X.kk := by
  rcases h with ⟨e, e1, e2, e3⟩ | ⟨y, hy, e1, e2, e3, q⟩
  · rw [e, e1, e2, e3]
    exact ⟨V.1, ML, T, h0⟩
  · refine ⟨⟨sp, Nat.le_refl _, e1⟩, X.ML, X.T, fun k y' hk hy' _ z2 z3 => ?_⟩
    have ek := (nI_eq (a := r9) (b := k) (by omega) (by omega)).mp (e2.symm.trans z2)
    have ey := (nI_eq (a := y) (b := y') (by omega) (by omega)).mp (e3.symm.trans z3)
    subst ek
    subst ey
    exact q.in M I F
/-! texts -/
theorem tx_same {S : Stk} {Zm : Mda} {G : Gr} {sf : Nat → Int32} {mw : Nat → Int64} (M : mrp S Zm G) (I : sInv S) (F : fb sf mw S.P) (C : clo S mw) {y : Nat} {PT LN : Nat → Nat} {rw9 sl od : Nat → Int32} {re : Nat → Int64} {to de st le si un : Value} {gou : Nat → Int32} {T : List Nat} {U : Nat} (V : txQ S mw y PT LN rw9 sl od re to de st le si un gou) (h : txS sf (S.NLp S.P) (S.FC S.P) G.H S.pc (kdS S) S.CF (lcS S) S.CL (nLn S) Zm.on Zm.tw y T U) : T = asL (rowL S mw y) (gL re (rowL S mw y).length ((rowL S mw y).length - dnG S mw y) gou) ∧ U = gU re (rowL S mw y).length ((rowL S mw y).length - dnG S mw y) gou := M.same I F C V.2.2.1 V.2.2.2.1 h
theorem tx_txS {S : Stk} {Zm : Mda} {G : Gr} {sf : Nat → Int32} {mw : Nat → Int64} (M : mrp S Zm G) (I : sInv S) (F : fb sf mw S.P) (C : clo S mw) {y : Nat} {PT LN : Nat → Nat} {rw9 sl od : Nat → Int32} {re : Nat → Int64} {to de st le si un : Value} {gou : Nat → Int32} (V : txQ S mw y PT LN rw9 sl od re to de st le si un gou) : txS sf (S.NLp S.P) (S.FC S.P) G.H S.pc (kdS S) S.CF (lcS S) S.CL (nLn S) Zm.on Zm.tw y (asL (rowL S mw y) (gL re (rowL S mw y).length ((rowL S mw y).length - dnG S mw y) gou)) (gU re (rowL S mw y).length ((rowL S mw y).length - dnG S mw y) gou) := M.txt I F C V.2.2.1 V.2.2.2.1
theorem wkZ.dead {S : Stk} {Zm : Mda} {G : Gr} {sf : Nat → Int32} {mw : Nat → Int64} (M : mrp S Zm G) (I : sInv S) (F : fb sf mw S.P) {y : Nat} {X : Wku} (h : wkZ S Zm G sf y X) : cnt (wb X.de) X.ML.length = dnG S mw y := by
  obtain ⟨_, _, h3, _, h5, h6, h7, _⟩ := h
  exact M.deadN I F h3 h5 h6 h7
theorem wkZ.str {S : Stk} {Zm : Mda} {G : Gr} {sf : Nat → Int32} {mw : Nat → Int64} (M : mrp S Zm G) (I : sInv S) (F : fb sf mw S.P) (C : clo S mw) {y : Nat} {X : Wku} (h : wkZ S Zm G sf y X) : cnt (sdB sf (S.FC S.P) S.pc (kdS S) (lcS S) (fun a => X.ML.getD a 0) Zm.on Zm.tw X.de (loS S)) X.ML.length = cnt (sB S (rowL S mw y) (deG S mw y) (dS S mw y S.P) (fun x => S.pc (lcS S x))) (rowL S mw y).length := by
  obtain ⟨_, _, h3, _, h5, h6, h7, _⟩ := h
  rw [sdB_lo I (fun a ha => ?_)]
  · exact M.strN I F C h3 h5 h6 h7
  · have hx := (mrp.row I F).mpr ((h6 _).mp (getD_mem ha))
    obtain ⟨c, q, hc, h2, hq, e, _, _⟩ := I.rowm hx
    have f1 := I.lnf hc h2 hq
    rw [e, f1.2.1]
    exact hc
/-- the view that was loaded -/
theorem rlV.new {S : Stk} {MW : Nat → Nat → Int64} {RR RV : Nat → Nat} (hR : ∀ a b, a < 8 → b < 8 → RR a = RR b → a = b) {r9 rd : Nat} (hr : r9 < 8) {ov vf vo vn : Nat → Int32} (h1 : arrL vf (filL S (MW r9))) (h2 : ∀ y, y < 200 → vo y = nI (nOf S y (namL S (MW r9)))) (h3 : arrL vn (namL S (MW r9))) (h4 : ∀ x, x < 38000 → ∃ k, k ≤ rd ∧ ov x = nI k) : rlV S MW RR RV (some (RR r9)) (RV r9) rd ov vf vo vn (.int (nI (filL S (MW r9)).length)) (.int (nI (namL S (MW r9)).length)) := ⟨h4, fun k hk e => by
  have ek := hR r9 k hr hk (Option.some.inj e)
  subst ek
  exact ⟨Nat.le_refl _, fun _ => ⟨h1, h2, h3, rfl, rfl⟩⟩⟩
theorem rlX.new {S : Stk} {MW : Nat → Nat → Int64} {RR RV : Nat → Nat} (hR : ∀ a b, a < 8 → b < 8 → RR a = RR b → a = b) {r9 y : Nat} (hr : r9 < 8) (hy : y < 40000) {rw9 sl od : Nat → Int32} {re : Nat → Int64} {to de st le si un : Value} {gou : Nat → Int32} (h : txQ S (MW r9) y (fun x => S.pc (lcS S x)) (tsS S) rw9 sl od re to de st le si un gou) : rlX S MW RR RV (some (RR r9)) (RV r9) y rw9 sl od re to de st le si un := ⟨hy, fun k hk e => by
  have ek := hR r9 k hr hk (Option.some.inj e)
  subst ek
  exact ⟨Nat.le_refl _, fun _ => ⟨gou, h⟩⟩⟩
/-- a repository whose version grows -/
theorem rlV.ver {S : Stk} {MW : Nat → Nat → Int64} {RR RV : Nat → Nat} {ld : Option Nat} {vv rd r9 : Nat} {mw : Nat → Int64} {rv₇ : Nat} {ov vf vo vn : Nat → Int32} {ft nt : Value} (hv : RV r9 < rv₇) (V : rlV S MW RR RV ld vv rd ov vf vo vn ft nt) : rlV S (stN MW r9 mw) RR (stN RV r9 rv₇) ld vv rd ov vf vo vn ft nt := ⟨V.1, fun k hk e => by
  have q := V.2 k hk e
  by_cases z : k = r9
  · subst z
    rw [stN_eq, stN_eq]
    exact ⟨by omega, fun y => by omega⟩
  · rw [stN_ne _ _ z, stN_ne _ _ z]
    exact q⟩
theorem rlX.ver {S : Stk} {MW : Nat → Nat → Int64} {RR RV : Nat → Nat} {lt : Option Nat} {tv lf r9 : Nat} {mw : Nat → Int64} {rv₇ : Nat} {rw9 sl od : Nat → Int32} {re : Nat → Int64} {to de st le si un : Value} (hv : RV r9 < rv₇) (V : rlX S MW RR RV lt tv lf rw9 sl od re to de st le si un) : rlX S (stN MW r9 mw) RR (stN RV r9 rv₇) lt tv lf rw9 sl od re to de st le si un := ⟨V.1, fun k hk e => by
  have q := V.2 k hk e
  by_cases z : k = r9
  · subst z
    rw [stN_eq, stN_eq]
    exact ⟨by omega, fun y => by omega⟩
  · rw [stN_ne _ _ z, stN_ne _ _ z]
    exact q⟩
theorem rlG.ver {S : Stk} {Z : StkA} {mw mw₇ : Nat → Int64} {dv : Int32} {rv rv₇ : Nat} {dg9 : Nat → Int32} (hr : rv < rv₇) (hv : rv₇ < 100000) (V : rlG S Z mw dv rv dg9) : rlG S Z mw₇ dv rv₇ dg9 := by
  obtain ⟨⟨a, h1, h2⟩, _⟩ := V
  refine ⟨⟨a, by omega, h2⟩, fun z => ?_⟩
  rw [h2] at z
  have e : nI a = nI (rv₇ + 1) := by rw [← nI_p1 rv₇, ← z, Int32.sub_add_cancel]
  have := (nI_eq (a := a) (b := rv₇ + 1) (by omega) (by omega)).mp e
  omega
/-! the tape -/
theorem upd_by1 {f : Nat → Int32} {L j : Nat} {v : Int32} (h : by1 (f j) = f j) : by1 (upd f L v.toInt8.toInt32 j) = upd f L v.toInt8.toInt32 j := by
  by_cases e : j = L
  · rw [e, upd_eq]; exact by1_tw v
  · rw [upd_ne _ e]; exact h
theorem put4_by1 {f : Nat → Int32} {L j : Nat} {v : Int32} (h : by1 (f j) = f j) : by1 (ps_put4 f L v j) = ps_put4 f L v j := upd_by1 (upd_by1 (upd_by1 (upd_by1 h)))
theorem rlT.put {f : Nat → Int32} {L : Nat} {p0 p1 p2 p3 p4 : Int32} (h : rlT f L) (hL : L + 20 ≤ 65536) : rlT (ps_put20 f L p0 p1 p2 p3 p4) (L + 20) := ⟨hL, fun j hj => put4_by1 (put4_by1 (put4_by1 (put4_by1 (put4_by1 (h.2 j hj)))))⟩
theorem cpy_cg {f g t : Nat → Int32} {a n : Nat} (h : ∀ i, i < n → f (a + i) = g (a + i)) : va_cpy f t a 0 n = va_cpy g t a 0 n := by
  funext k
  unfold va_cpy
  by_cases z : 0 ≤ k ∧ k < 0 + n
  · rw [if_pos z, if_pos z]
    exact h (k - 0) (by omega)
  · rw [if_neg z, if_neg z]
theorem rlT.shw {S : Stk} {Z : StkA} {tf : Nat → Int32} {tn p : Nat} (h : rlT tf tn) (B : rlS S Z) (hp : p < S.P) (hl : S.FR (p + 1) - S.FR p ≤ 65536) : rlT (va_cpy S.f tf (S.FR p) 0 (S.FR (p + 1) - S.FR p)) (S.FR (p + 1) - S.FR p) := by
  have I := B.1
  have m1 := I.frm (i := p) (k := p + 1) (by omega) (by omega)
  have m2 := I.frm (i := p + 1) (k := S.P) (by omega) (Nat.le_refl _)
  have m3 := I.frP
  refine ⟨hl, fun j hj => ?_⟩
  unfold va_cpy
  by_cases z : 0 ≤ j ∧ j < 0 + (S.FR (p + 1) - S.FR p)
  · rw [if_pos z]
    exact B.2.2.1 _ (by omega)
  · rw [if_neg z]
    exact h.2 j hj
theorem shw_al {S : Stk} {Z : Mda} {G : Gr} (I : sInv S) (M : mrp S Z G) : ∀ p, p < S.P → Z.le p = nI (S.FR (p + 1) - S.FR p) ∧ Z.at₇ p = nI (S.FR p) ∧ S.FR p + (S.FR (p + 1) - S.FR p) ≤ 200000 := fun p hp => by
  have m1 := I.frm (i := p) (k := p + 1) (by omega) (by omega)
  have m2 := I.frm (i := p + 1) (k := S.P) (by omega) (Nat.le_refl _)
  have m3 := I.frP
  exact ⟨(M.2.1 p hp).2, (M.2.1 p hp).1, by omega⟩
theorem shw_by {S : Stk} {Zc : StkA} {Z : Mda} {G : Gr} (B : rlS S Zc) (M : mrp S Z G) : ∀ p, p < S.P → ∀ j, j < S.FR (p + 1) - S.FR p → Z.by₇ (S.FR p + j) = S.f (S.FR p + j) ∧ fits .byte (.int (Z.by₇ (S.FR p + j))) = true := fun p hp j hj => by
  have I := B.1
  have m1 := I.frm (i := p) (k := p + 1) (by omega) (by omega)
  have m2 := I.frm (i := p + 1) (k := S.P) (by omega) (Nat.le_refl _)
  have m3 := I.frP
  have e := M.1 (S.FR p + j) (by omega)
  exact ⟨e, by rw [e]; exact by1_fits (B.2.2.1 _ (by omega))⟩
theorem count_eq {x : Int32} {L P F T : Nat} {f g : Nat → Int32} (h : f P = g P) : ps_count x L P F T f = ps_count x L P F T g := by
  unfold ps_count
  rw [h]
/-! the answers of the short calls -/
theorem has_eq {S : Stk} {mw : Nat → Int64} {sf : Nat → Int32} {pp : Nat} {p2 r8 rm : Int32} (I : sInv S) (F : fb sf mw 500) (hp : pp < S.P) (h : (p2 = nI 0 ∧ ((bt mw pp = true ∧ some (Value.int r8) = some (.int 1)) ∨ (bt mw pp = false ∧ some (Value.int r8) = some (.int 0)))) ∨ (p2 = nI 1 ∧ some (Value.int r8) = some (.int (bcs (fun i => S.lb (pp * 8 + i) &&& mw i) 8))) ∨ (p2 = nI 2 ∧ some (Value.int r8) = some (.int (bcs (fun i => S.lo (pp * 8 + i)) 8)))) (g : (p2 = 0 ∧ rm = sf pp) ∨ (p2 = 2 ∧ ∃ mkv, fgR mkv 500 (loS S pp) ∧ rm = nI (fgN mkv 500)) ∨ (p2 = nI 1 ∧ rm = nI (cntP (fun q => pp < q ∧ sf q = 1 ∧ loS S q pp) S.P))) : r8 = rm := by
  have h5 := I.hP
  have ij : ∀ {x y : Int32}, some (Value.int x) = some (Value.int y) → x = y := fun e => by injection e with z; injection z
  have n01 : ¬ (nI 0 = nI 1) := by decide
  have n02 : ¬ (nI 0 = (2 : Int32)) := by decide
  have n10 : ¬ (nI 1 = (0 : Int32)) := by decide
  have n12 : ¬ (nI 1 = (2 : Int32)) := by decide
  have n20 : ¬ (nI 2 = (0 : Int32)) := by decide
  have n21 : ¬ (nI 2 = nI 1) := by decide
  rcases h with ⟨e, h⟩ | ⟨e, h⟩ | ⟨e, h⟩
  · rw [e] at g
    rcases g with ⟨_, g⟩ | ⟨z, _⟩ | ⟨z, _⟩
    · rw [g]
      rcases h with ⟨h1, h2⟩ | ⟨h1, h2⟩
      · rw [ij h2]; exact ((F.iff (by omega)).mpr h1).symm
      · rw [ij h2]
        rcases F.o pp (by omega) with z | z
        · exact z.symm
        · rw [(F.iff (by omega)).mp z] at h1; cases h1
    · exact absurd z n02
    · exact absurd z n01
  · rw [e] at g
    rcases g with ⟨z, _⟩ | ⟨z, _⟩ | ⟨_, g⟩
    · exact absurd z n10
    · exact absurd z n12
    · rw [g, ij h]; exact has_1 I F hp
  · rw [e] at g
    rcases g with ⟨z, _⟩ | ⟨_, mkv, g1, g2⟩ | ⟨z, _⟩
    · exact absurd z n20
    · rw [g2, ij h]; exact has_2 I hp g1
    · exact absurd z n21
theorem has_no {p2 : Int32} {A B C : Prop} (hn : ¬ ∃ w : Nat, w < 3 ∧ p2 = nI w) (h : (p2 = nI 0 ∧ A) ∨ (p2 = nI 1 ∧ B) ∨ (p2 = nI 2 ∧ C)) : False := by
  rcases h with ⟨e, _⟩ | ⟨e, _⟩ | ⟨e, _⟩
  · exact hn ⟨0, by decide, e⟩
  · exact hn ⟨1, by decide, e⟩
  · exact hn ⟨2, by decide, e⟩
theorem has_mo {p2 : Int32} {A B C : Prop} (hn : ¬ ∃ w : Nat, w < 3 ∧ p2 = nI w) (h : (p2 = 0 ∧ A) ∨ (p2 = 2 ∧ B) ∨ (p2 = nI 1 ∧ C)) : False := by
  rcases h with ⟨e, _⟩ | ⟨e, _⟩ | ⟨e, _⟩
  · exact hn ⟨0, by decide, e⟩
  · exact hn ⟨2, by decide, e⟩
  · exact hn ⟨1, by decide, e⟩
theorem zz_ex {zi : Int32} {n : Nat} (h : zi = nI n) (hn : n ≤ 500) : ∃ zz, 1 ≤ zz ∧ zi = nI zz ∧ (1 ≤ n → zz = n) := by
  by_cases z : n = 0
  · refine ⟨4294967296, by decide, ?_, fun y => by omega⟩
    rw [h, z]
    decide
  · exact ⟨n, by omega, h, fun _ => rfl⟩
theorem rlK.hzz {S : Stk} {mw : Nat → Int64} {zi : Int32} {sf : Nat → Int32} (K9 : rlK S mw zi sf) (I : sInv S) : ∃ zz, 1 ≤ zz ∧ zi = nI zz ∧ (1 ≤ cnt (bt mw) S.P → zz = cnt (bt mw) S.P) := zz_ex K9.2.2.2 (Nat.le_trans (cnt_le _ _) I.hP)
/-- all repositories where one of them changed -/
theorem stN_all {A B C : Type} {P : A → B → C → Prop} {f : Nat → A} {g : Nat → B} {h : Nat → C} {r9 : Nat} {a : A} {b : B} {d : C} (h0 : ∀ k, k < 8 → P (f k) (g k) (h k)) (h1 : P a b d) : ∀ k, k < 8 → P (stN f r9 a k) (stN g r9 b k) (stN h r9 d k) := fun k hk => by
  by_cases z : k = r9
  · rw [z, stN_eq, stN_eq, stN_eq]; exact h1
  · rw [stN_ne _ _ z, stN_ne _ _ z, stN_ne _ _ z]; exact h0 k hk
theorem rlG.all {S : Stk} {Z : StkA} {MW : Nat → Nat → Int64} {DV : Nat → Int32} {RV : Nat → Nat} {DF : Nat → Nat → Int32} {r9 rv₇ : Nat} {mw : Nat → Int64} (hr : r9 < 8) (hv : RV r9 < rv₇) (hn : rv₇ < 100000) (h : ∀ k, k < 8 → rlG S Z (MW k) (DV k) (RV k) (DF k)) : ∀ k, k < 8 → rlG S Z (stN MW r9 mw k) (DV k) (stN RV r9 rv₇ k) (DF k) := fun k hk => by
  by_cases z : k = r9
  · subst z
    rw [stN_eq, stN_eq]
    exact (h k hk).ver hv hn
  · rw [stN_ne _ _ z, stN_ne _ _ z]; exact h k hk
theorem rlJ.ver {n : Nat} {RV : Nat → Nat} {vv rd tv sp r9 rv₇ : Nat} (hr : r9 < 8) (hv : rv₇ ≤ RV r9 + 2) (h : rlJ n RV vv rd tv sp) : rlJ (n + 1) (stN RV r9 rv₇) vv rd tv (sp + 1) := ⟨fun k hk => by
  by_cases z : k = r9
  · rw [z, stN_eq]; have := h.1 r9 hr; omega
  · rw [stN_ne _ _ z]; have := h.1 k hk; omega, by have := h.2.1; omega, by have := h.2.2.1; omega, by have := h.2.2.2.1; omega, by have := h.2.2.2.2; omega⟩
theorem rlJ.sp {n : Nat} {RV : Nat → Nat} {vv rd tv sp : Nat} (h : rlJ n RV vv rd tv sp) : rlJ (n + 1) RV vv rd tv (sp + 1) := ⟨fun k hk => by have := h.1 k hk; omega, by have := h.2.1; omega, by have := h.2.2.1; omega, by have := h.2.2.2.1; omega, by have := h.2.2.2.2; omega⟩
theorem pull_0 {mw aw : Nat → Int64} {o : Nat} {zi : Int32} (hz : zi + bcs (fun j => aw (o + j) &&& (mw j ^^^ (-1))) 8 = zi) : ∀ j, j < 8 → mw j ||| aw (o + j) = mw j := by
  have h0 : bcs (fun j => aw (o + j) &&& (mw j ^^^ (-1))) 8 = 0 := (Int32.add_right_inj zi).mp (hz.trans (Int32.add_zero zi).symm)
  rw [bcs_num] at h0
  have hc := cnt_le (bt (fun j => aw (o + j) &&& (mw j ^^^ (-1)))) (64 * 8)
  have h1 := (nI_eq (a := cnt (bt (fun j => aw (o + j) &&& (mw j ^^^ (-1)))) (64 * 8)) (b := 0) (by omega) (by decide)).mp h0
  intro j hj
  apply Int64.toBitVec_inj.mp
  apply BitVec.eq_of_getLsbD_eq
  intro i hi
  rw [i64_or]
  have h2 : bt (fun j => aw (o + j) &&& (mw j ^^^ (-1))) (64 * j + i) = false := Bool.eq_false_iff.mpr (fun z => by
    have := cnt_of (b := bt (fun j => aw (o + j) &&& (mw j ^^^ (-1)))) (i := 64 * j + i) (n := 64 * 8) (by omega) z
    omega)
  unfold bt at h2
  rw [show (64 * j + i) / 64 = j by omega, show (64 * j + i) % 64 = i by omega] at h2
  dsimp only at h2
  rw [i64_an _ _ _ hi] at h2
  revert h2
  cases (mw j).toBitVec.getLsbD i <;> cases (aw (o + j)).toBitVec.getLsbD i <;> simp
theorem bt_cg8 {u mw : Nat → Int64} (h : ∀ j, j < 8 → u j = mw j) : ∀ q, q < 512 → bt u q = bt mw q := fun q hq => by
  unfold bt
  rw [h _ (by omega)]
theorem rlK.cg {S : Stk} {u mw : Nat → Int64} {zi : Int32} {sf : Nat → Int32} (h : ∀ j, j < 8 → u j = mw j) (K9 : rlK S u zi sf) (hP : S.P ≤ 500 := by omega) : rlK S mw zi sf := by
  have e := bt_cg8 h
  obtain ⟨k1, k2, k3, k4⟩ := K9
  refine ⟨fun p hp z n hn y => ?_, fun q hq => ?_, fun p hp z => k3 p hp (by rw [e p hp]; exact z), ?_⟩
  · rw [← e n hn]; exact k1 p hp (by rw [e p (by omega)]; exact z) n hn y
  · rw [← e q (by omega)]; exact k2 q hq
  · rw [k4, cnt_congr S.P (fun i hi => e i (by omega))]
theorem i64_self (x : Int64) : x ||| x = x := bt_orself x
theorem bcs_self (mw : Nat → Int64) : bcs (fun j => mw (0 + j) &&& (mw j ^^^ (-1))) 8 = 0 := by
  rw [bcs_num, cnt_zero (64 * 8) (fun i hi => ?_)]
  · rfl
  · unfold bt
    show (mw (0 + i / 64) &&& (mw (i / 64) ^^^ (-1))).toBitVec.getLsbD (i % 64) = false
    rw [Nat.zero_add, i64_an _ _ _ (Nat.mod_lt _ (by decide))]
    cases (mw (i / 64)).toBitVec.getLsbD (i % 64) <;> rfl
theorem rlJ.vw {n : Nat} {RV : Nat → Nat} {vv rd tv sp r9 rd₇ : Nat} (hr : r9 < 8) (hd : rd₇ ≤ rd + 1) (h : rlJ n RV vv rd tv sp) : rlJ (n + 1) RV (RV r9) rd₇ tv sp := ⟨fun k hk => by have := h.1 k hk; omega, by have := h.1 r9 hr; omega, by have := h.2.2.1; omega, by have := h.2.2.2.1; omega, by have := h.2.2.2.2; omega⟩
theorem rlJ.tx {n : Nat} {RV : Nat → Nat} {vv rd tv sp r9 rd₇ : Nat} (hr : r9 < 8) (hd : rd₇ ≤ rd + 1) (h : rlJ n RV vv rd tv sp) : rlJ (n + 1) RV (RV r9) rd₇ (RV r9) sp := ⟨fun k hk => by have := h.1 k hk; omega, by have := h.1 r9 hr; omega, by have := h.2.2.1; omega, by have := h.1 r9 hr; omega, by have := h.2.2.2.2; omega⟩
theorem rlS.cc {S : Stk} {Z : StkA} (B : rlS S Z) {c : Nat} (hc : c < S.FC S.P) : c < 38000 ∧ Z.ca c = nI (S.CA c) ∧ Z.cf c = nI (S.CF c) ∧ S.CF c < 200 ∧ Z.cp c = nI (S.pc c) ∧ S.pc c < 500 ∧ Z.fc (S.pc c) = nI (S.FC (S.pc c)) ∧ S.FC (S.pc c) ≤ c := by
  have I := B.1
  have R := B.2.1
  obtain ⟨h1, j, hj, e⟩ := I.pcs hc
  have b1 := I.fcP
  have b2 := I.cfl hc
  have b3 := I.nfP
  have b4 := I.hP
  have q := R.cp (S.pc c) j h1 hj
  rw [← e] at q
  exact ⟨by omega, R.ca c hc, R.cf c hc, by omega, q, by omega, R.fc _ (by omega), by omega⟩
theorem rlS.ac {S : Stk} {Z : StkA} (B : rlS S Z) {mw : Nat → Int64} : ∀ y, y ∈ filL S mw → S.ad y = nI (fhS S y) ∧ fhS S y < 38000 ∧ Z.cp (fhS S y) = nI (S.pc (fhS S y)) ∧ S.pc (fhS S y) < 500 ∧ Z.fc (S.pc (fhS S y)) = nI (S.FC (S.pc (fhS S y))) ∧ S.FC (S.pc (fhS S y)) ≤ fhS S y := fun y hy => by
  have I := B.1
  have h1 := (List.mem_filter.mp hy).1
  unfold flA at h1
  obtain ⟨c, h2, h3⟩ := List.mem_map.mp h1
  obtain ⟨h4, h5⟩ := List.mem_filter.mp h2
  have hc := (I.allu.mp h4).1
  have h0 := adB_iff.mp h5
  obtain ⟨e1, e2, e3⟩ := I.fhc hc h0
  rw [h3] at e1 e2
  obtain ⟨a1, a2, a3, a4, a5, a6, a7, a8⟩ := B.cc hc
  rw [e1]
  exact ⟨e2, a1, a5, a6, a7, a8⟩
theorem rlS.ln {S : Stk} {Z : StkA} (B : rlS S Z) {mw : Nat → Int64} : ∀ y, y < 200 → ∀ x, x ∈ rowL S mw y → x < 4000 ∧ S.ll x = nI (tsS S x) ∧ tsS S x ≤ 500 ∧ S.la x = nI (taS S x) ∧ taS S x + tsS S x ≤ 290000 ∧ S.lc x = nI (lcS S x) ∧ lcS S x < 38000 ∧ Z.cp (lcS S x) = nI (S.pc (lcS S x)) ∧ S.pc (lcS S x) < 500 ∧ Z.fc (S.pc (lcS S x)) = nI (S.FC (S.pc (lcS S x))) ∧ S.FC (S.pc (lcS S x)) ≤ lcS S x := fun y _ x hx => by
  have I := B.1
  obtain ⟨c, q, hc, h2, hq, e, hl, _⟩ := I.rowm hx
  obtain ⟨l1, _, l3, l4, l5⟩ := I.lnt hl
  have b1 := I.nlP
  have b2 := I.frP
  obtain ⟨f1, f2, _⟩ := I.lnf hc h2 hq
  rw [← e] at f1 f2
  obtain ⟨a1, _, _, _, a5, a6, a7, a8⟩ := B.cc hc
  rw [f2]
  exact ⟨by omega, l1, l3, l4, by omega, f1, a1, a5, a6, a7, a8⟩
theorem rlS.nm {S : Stk} {Z : StkA} (B : rlS S Z) {mw : Nat → Int64} : ∀ c, c ∈ namL S mw → nmIn S c ∧ Z.ca c = nI (S.CA c) ∧ Z.cf c = nI (S.CF c) := fun c hc => ⟨B.1.nmIn9 hc, (B.cc (B.1.namm hc)).2.1, (B.cc (B.1.namm hc)).2.2.1⟩
theorem rlS.nmL9 {S : Stk} {Z : StkA} (B : rlS S Z) (mw : Nat → Int64) (y : Nat) : ((namL S mw).filter (ofF S y)).length ≤ 16800 := Nat.le_trans (List.length_filter_le _ _) (filL_len9 B.1 B.bz mw).2
theorem si_inj {x y : Int32} (e : some (Value.int x) = some (Value.int y)) : x = y := by injection e with z; injection z
theorem name_j {S : Stk} {Z : StkA} (B : rlS S Z) {mw : Nat → Int64} {yf q8 j9 : Nat} {NL9 : List Nat} {p3 : Int32} (eNL : NL9 = (namL S mw).filter (ofF S yf)) (h1 : q8 < ((namL S mw).filter (ofF S yf)).length) (e1 : p3 = nI q8) (h2 : j9 < NL9.length) (e2 : p3 = nI j9) : q8 = j9 := by
  have l := B.nmL9 mw yf
  rw [eNL] at h2
  exact (nI_eq (by omega) (by omega)).mp (e1.symm.trans e2)
theorem name_c {S : Stk} {Z : StkA} (B : rlS S Z) {mw : Nat → Int64} {yf q8 : Nat} (h1 : q8 < ((namL S mw).filter (ofF S yf)).length) : nsS S (((namL S mw).filter (ofF S yf)).getD q8 0) ≤ 64 ∧ S.f (nmAt S.f (S.CA (((namL S mw).filter (ofF S yf)).getD q8 0))) = nI (nsS S (((namL S mw).filter (ofF S yf)).getD q8 0)) ∧ ntS S (((namL S mw).filter (ofF S yf)).getD q8 0) + nsS S (((namL S mw).filter (ofF S yf)).getD q8 0) ≤ S.FR S.P := by
  have hc := (List.mem_filter.mp (getD_mem h1)).1
  obtain ⟨h2, h3, _⟩ := B.1.nmL hc
  exact B.1.nmw h2 h3
theorem m1_lt : (-1 : Int32) < 0 := by decide
theorem name_v {S : Stk} {Zc : StkA} {Z : Mda} {G : Gr} {mw : Nat → Int64} {yf q8 j9 : Nat} {NL9 : List Nat} {p3 p4 r8 rm : Int32} (B : rlS S Zc) (M : mrp S Z G) (eNL : NL9 = (namL S mw).filter (ofF S yf)) (h1 : q8 < ((namL S mw).filter (ofF S yf)).length) (e1 : p3 = nI q8) (h2 : j9 < NL9.length) (e2 : p3 = nI j9) (h : (p4 = -1 ∧ some (Value.int r8) = some (.int (S.f (nmAt S.f (S.CA (((namL S mw).filter (ofF S yf)).getD q8 0)))))) ∨ ∃ i, i < (b8 (S.f (nmAt S.f (S.CA (((namL S mw).filter (ofF S yf)).getD q8 0))))) ∧ p4 = nI i ∧ some (Value.int r8) = some (.int (S.f ((nmAt S.f (S.CA (((namL S mw).filter (ofF S yf)).getD q8 0))) + 1 + i)))) (g0 : ¬ p4 < -1) (g : (p4 < 0 ∧ rm = nI (nsS S (NL9.getD j9 0))) ∨ ∃ i8, i8 < nsS S (NL9.getD j9 0) ∧ p4 = nI i8 ∧ rm = Z.by₇ (ntS S (NL9.getD j9 0) + i8)) : r8 = rm := by
  have ej := name_j B eNL h1 e1 h2 e2
  rw [eNL, ← ej] at g
  obtain ⟨a1, a2, a3⟩ := name_c B h1
  generalize ((namL S mw).filter (ofF S yf)).getD q8 0 = c9 at h g a1 a2 a3
  rcases h with ⟨e, z⟩ | ⟨i, hi, e, z⟩
  · rcases g with ⟨_, g⟩ | ⟨i8, g1, g2, g3⟩
    · rw [si_inj z, g, a2]
    · rw [e] at g2
      exact absurd (by rw [← g2]; exact m1_lt) (nI_pos (n := i8) (by omega))
  · have hi2 : i < nsS S c9 := hi
    rcases g with ⟨g1, _⟩ | ⟨i8, g1, g2, g3⟩
    · rw [e] at g1
      exact absurd g1 (nI_pos (by omega))
    · have ei := (nI_eq (a := i) (b := i8) (by omega) (by omega)).mp (e.symm.trans g2)
      rw [si_inj z, g3, ← ei, M.1 _ (by omega)]
      rfl
theorem name_o {S : Stk} {Zc : StkA} {mw : Nat → Int64} {yf q8 j9 : Nat} {NL9 : List Nat} {p3 p4 r8 : Int32} (B : rlS S Zc) (eNL : NL9 = (namL S mw).filter (ofF S yf)) (h1 : q8 < ((namL S mw).filter (ofF S yf)).length) (e1 : p3 = nI q8) (h2 : j9 < NL9.length) (e2 : p3 = nI j9) (h : (p4 = -1 ∧ some (Value.int r8) = some (.int (S.f (nmAt S.f (S.CA (((namL S mw).filter (ofF S yf)).getD q8 0)))))) ∨ ∃ i, i < (b8 (S.f (nmAt S.f (S.CA (((namL S mw).filter (ofF S yf)).getD q8 0))))) ∧ p4 = nI i ∧ some (Value.int r8) = some (.int (S.f ((nmAt S.f (S.CA (((namL S mw).filter (ofF S yf)).getD q8 0))) + 1 + i)))) (g : (p4 < -1) ∨ nI (nsS S (NL9.getD j9 0)) ≤ p4) : False := by
  have ej := name_j B eNL h1 e1 h2 e2
  rw [eNL, ← ej] at g
  obtain ⟨a1, a2, a3⟩ := name_c B h1
  generalize ((namL S mw).filter (ofF S yf)).getD q8 0 = c9 at h g a1 a2 a3
  rcases h with ⟨e, _⟩ | ⟨i, hi, e, _⟩
  · rw [e] at g
    rcases g with g | g
    · exact absurd g (by decide)
    · exact nI_pos (n := nsS S c9) (by omega) (Int32.lt_of_le_of_lt g m1_lt)
  · have hi2 : i < nsS S c9 := hi
    rw [e] at g
    rcases g with g | g
    · exact nI_pos (n := i) (by omega) (Int32.lt_trans g m1_lt)
    · exact nI_ge hi2 (by omega) g
theorem name_i {S : Stk} {Zc : StkA} {mw : Nat → Int64} {yf q8 j9 : Nat} {NL9 : List Nat} {p3 p4 : Int32} (B : rlS S Zc) (eNL : NL9 = (namL S mw).filter (ofF S yf)) (h1 : q8 < ((namL S mw).filter (ofF S yf)).length) (e1 : p3 = nI q8) (h2 : j9 < NL9.length) (e2 : p3 = nI j9) (h : p4 < -1 ∨ nI (b8 (S.f (nmAt S.f (S.CA (((namL S mw).filter (ofF S yf)).getD q8 0))))) ≤ p4) (g0 : ¬ p4 < -1) (g : p4 < nI (nsS S (NL9.getD j9 0))) : False := by
  have ej := name_j B eNL h1 e1 h2 e2
  rw [eNL, ← ej] at g
  rcases h with h | h
  · exact g0 h
  · exact Int32.not_lt.mpr h g
theorem mrp.grid {S : Stk} {Z : Mda} {G : Gr} (M : mrp S Z G) (E W : Nat → Nat → Int32) : mrp S Z ((G.wE E).wW W) := M
theorem rlE.grid {G : Gr} {ge gw gc : Nat → Option Nat} (h : rlE G ge gw gc) (E W : Nat → Nat → Int32) : rlE ((G.wE E).wW W) ge gw gc := h
theorem mrp.ofc {S : Stk} {Z : Mda} {G : Gr} (M : mrp S Z G) (I : sInv S) {c : Nat} (hc : c < S.FC S.P) : Z.of c = nI (S.pc c) ∧ S.pc c < S.P := by
  obtain ⟨h1, j, hj, e⟩ := I.pcs hc
  have q := (M.2.2.2.2.2.1 _ j h1 hj).1
  rw [← e] at q
  exact ⟨q, h1⟩
/-! lines -/
theorem tx_len {S : Stk} (I : sInv S) {mw : Nat → Int64} {y k : Nat} {re : Nat → Int64} {go : Nat → Int32} (hk : k ≤ (rowL S mw y).length) : (asL (rowL S mw y) (gL re (rowL S mw y).length k go)).length ≤ 400 := by
  rw [asL_len]
  exact Nat.le_trans (gL_le9 _ _ _ _) (Nat.le_trans hk (I.rowl mw y))
theorem line_v {S : Stk} {Zc : StkA} {Z : Mda} {G : Gr} {mw : Nat → Int64} {yf x : Nat} {p4 r8 rm : Int32} (B : rlS S Zc) (M : mrp S Z G) (hx : x ∈ rowL S mw yf) (hn : ¬ p4 < -4) (h : (p4 < 0 ∧ some (Value.int r8) = some (.int (if p4 = -3 then nI (lcS S x - S.FC (S.pc (lcS S x))) else if p4 = -2 then nI (S.pc (lcS S x)) else if p4 = -1 then S.ll x else S.lp x))) ∨ ∃ i, i < tsS S x ∧ p4 = nI i ∧ some (Value.int r8) = some (.int (nI (b8 (S.f (taS S x + i)))))) (g : (p4 = -1 ∧ rm = nI (tsS S x)) ∨ (p4 = -2 ∧ rm = nI (S.pc (lcS S x))) ∨ (p4 = -3 ∧ rm = nI (lcS S x - S.FC (S.pc (lcS S x)))) ∨ (p4 = -4 ∧ rm = nI (x - S.CL (lcS S x))) ∨ ∃ i8, i8 < tsS S x ∧ p4 = nI i8 ∧ rm = nI (b8 (Z.by₇ (taS S x + i8)))) : r8 = rm := by
  have I := B.1
  obtain ⟨c, q, hc, h2, hq, e, hl, _⟩ := I.rowm hx
  obtain ⟨l1, _, l3, l4, l5⟩ := I.lnt hl
  obtain ⟨f1, f2, f3, _⟩ := I.lnf hc h2 hq
  rw [← e] at f1 f2 f3
  have hlp : S.lp x = nI (x - S.CL (lcS S x)) := by rw [f3, f2]; exact congrArg nI (by omega)
  have neg : ∀ k : Nat, k < 500 → ∀ v : Int32, v < 0 → ¬ v = nI k := fun k hk v hv z => nI_pos (n := k) (by omega) (by rw [← z]; exact hv)
  rcases h with ⟨h0, h1⟩ | ⟨i, hi, e1, h1⟩
  · rw [si_inj h1]
    rcases g with ⟨g1, g2⟩ | ⟨g1, g2⟩ | ⟨g1, g2⟩ | ⟨g1, g2⟩ | ⟨i8, g1, g2, _⟩
    · rw [g1, g2, if_neg (by decide), if_neg (by decide), if_pos rfl, l1]
    · rw [g1, g2, if_neg (by decide), if_pos rfl]
    · rw [g1, g2, if_pos rfl]
    · rw [g1, g2, if_neg (by decide), if_neg (by decide), if_neg (by decide), hlp]
    · exact absurd g2 (neg i8 (by omega) p4 h0)
  · rcases g with ⟨g1, _⟩ | ⟨g1, _⟩ | ⟨g1, _⟩ | ⟨g1, _⟩ | ⟨i8, g1, g2, g3⟩
    · exact absurd (g1.symm.trans e1) (neg i (by omega) _ (by decide))
    · exact absurd (g1.symm.trans e1) (neg i (by omega) _ (by decide))
    · exact absurd (g1.symm.trans e1) (neg i (by omega) _ (by decide))
    · exact absurd (g1.symm.trans e1) (neg i (by omega) _ (by decide))
    · have ei := (nI_eq (a := i) (b := i8) (by omega) (by omega)).mp (e1.symm.trans g2)
      rw [si_inj h1, g3, ← ei, M.1 _ (by omega)]
theorem line_o {S : Stk} {Zc : StkA} {mw : Nat → Int64} {yf x : Nat} {p4 : Int32} {A : Prop} {C9 : Nat → Prop} (B : rlS S Zc) (hx : x ∈ rowL S mw yf) (hn : ¬ p4 < -4) (h : (p4 < 0 ∧ A) ∨ ∃ i, i < tsS S x ∧ p4 = nI i ∧ C9 i) (g : p4 < -4 ∨ nI (tsS S x) ≤ p4) : False := by
  obtain ⟨c, q, hc, h2, hq, e, hl, _⟩ := B.1.rowm hx
  obtain ⟨l1, _, l3, l4, l5⟩ := B.1.lnt hl
  rcases g with g | g
  · exact hn g
  · rcases h with ⟨h0, _⟩ | ⟨i, hi, e1, _⟩
    · exact nI_pos (n := tsS S x) (by omega) (Int32.lt_of_le_of_lt g h0)
    · rw [e1] at g
      exact nI_ge hi (by omega) g
theorem line_i {S : Stk} {x : Nat} {p4 : Int32} (h : p4 < -4 ∨ nI (tsS S x) ≤ p4) (g : ¬ p4 < -4 ∧ p4 < nI (tsS S x)) : False := h.elim g.1 (fun z => Int32.not_lt.mpr z g.2)
theorem line_j {S : Stk} (I : sInv S) {mw : Nat → Int64} {y k j8 j9 : Nat} {re : Nat → Int64} {go : Nat → Int32} {T8 : List Nat} {p3 : Int32} (e : T8 = asL (rowL S mw y) (gL re (rowL S mw y).length ((rowL S mw y).length - k) go)) (h1 : j8 < (asL (rowL S mw y) (gL re (rowL S mw y).length ((rowL S mw y).length - k) go)).length) (e1 : p3 = nI j8) (h2 : j9 < T8.length) (e2 : p3 = nI j9) : j8 = j9 := by
  have l := tx_len I (mw := mw) (y := y) (k := (rowL S mw y).length - k) (re := re) (go := go) (Nat.sub_le _ _)
  rw [e] at h2
  exact (nI_eq (by omega) (by omega)).mp (e1.symm.trans e2)

/-! 99zzzci.bytes.lean.txt -/
/-! the bytes that both write -/
theorem by1_of {x y : Int32} (h : x.toBitVec.signExtend 8 = y.toBitVec.signExtend 8) : by1 x = by1 y := by
  unfold by1
  exact congrArg Int8.toInt32 (Int8.toBitVec_inj.mp h)
theorem salt_a (v : Int32) : by1 (((v.toUInt32 >>> ((16 : Int32).toUInt32 &&& Int32.toUInt32 31)).toInt32) >>> ((8 : Int32) &&& 31)) = by1 (v >>> ((24 : Int32) &&& 31)) := by1_of (bv_s24 v.toBitVec)
theorem salt_b (v : Int32) : by1 ((v.toUInt32 >>> ((16 : Int32).toUInt32 &&& Int32.toUInt32 31)).toInt32) = by1 (v >>> ((16 : Int32) &&& 31)) := by1_of (bv_s16 v.toBitVec)
theorem salt4 (v : Int32) : by2 ((v.toUInt32 >>> ((16 : Int32).toUInt32 &&& Int32.toUInt32 31)).toInt32) ++ by2 v = by4 v := by
  unfold by2 by4
  rw [salt_a, salt_b]
  rfl
theorem add_W {S : Stk} {Zc : StkA} {Z : Mda} {G : Gr} {z0 tf : Nat → Int32} {tn : Nat} {salt : Int32} (I : sInv S) (R : rep S Zc) (M : mrp S Z G) (hz : ∀ j, j < 500 → z0 j = 0) : adW S Zc.hs z0 ((salt.toUInt32 >>> ((16 : Int32).toUInt32 &&& Int32.toUInt32 31)).toInt32) salt tf tn = (((([] : List Int32) ++ (by2 (nI 0) ++ (hdM G.H (fun _ => 0) 0 ++ by2 (nI 1)))) ++ [by1 0]) ++ by4 salt) ++ nmW tf tn := by
  unfold adW
  rw [M.hdE I R.hs, ndL_add I hz, ← salt4]
  have e1 : ∀ (F : Nat → Nat), hdM G.H F 0 = [] := fun _ => rfl
  rw [List.length_nil, e1, e1]
  simp only [List.nil_append, List.append_assoc]
/-! what settling leaves -/
theorem stl.inv {S S1 : Stk} {bf hs : Nat → Int32} {en : Nat} {mw : Nat → Int64} {r : Int32} (I : sInv S) (h : stl S bf hs en mw r S1) : sInv S1 := by
  rcases h with ⟨_, e, _⟩ | ⟨_, e, _⟩ | ⟨e, _⟩ | ⟨_, _, _, h2⟩
  · rw [e]; exact I
  · rw [e]; exact I
  · rw [e]; exact I
  · rcases h2 with ⟨_, e, _⟩ | ⟨_, e, _⟩ | ⟨CF1, _, _, h4⟩
    · rw [e]; exact I
    · rw [e]; exact I
    · rcases h4 with ⟨_, e, _⟩ | ⟨_, _, h7⟩
      · rw [e]; exact I
      · obtain ⟨_, _, _, _, _, _, _, _, _, _, _, _, q⟩ := h7
        exact q
theorem stl.fbb {S S1 : Stk} {bf hs : Nat → Int32} {en : Nat} {mw : Nat → Int64} {r : Int32} (hb : ∀ i, i < S.FR S.P → S.f i = bf i) (h : stl S bf hs en mw r S1) : ∀ i, i < S1.FR S1.P → S1.f i = bf i := by
  rcases h with ⟨_, e, _⟩ | ⟨_, e, _⟩ | ⟨e, _⟩ | ⟨_, _, _, h2⟩
  · rw [e]; exact hb
  · rw [e]; exact hb
  · rw [e]; exact hb
  · rcases h2 with ⟨_, e, _⟩ | ⟨_, e, _⟩ | ⟨CF1, _, _, h4⟩
    · rw [e]; exact hb
    · rw [e]; exact hb
    · rcases h4 with ⟨_, e, _⟩ | ⟨_, _, h7⟩
      · rw [e]; exact hb
      · obtain ⟨_, _, _, _, _, _, _, _, _, _, _, e, _⟩ := h7
        rw [e]
        exact fun _ _ => rfl
theorem stl.neg {S S1 : Stk} {bf hs : Nat → Int32} {en : Nat} {mw : Nat → Int64} {r : Int32} (I : sInv S) (h : stl S bf hs en mw r S1) (hr : r < 0) : S1 = S := by
  rcases h with ⟨_, e, _⟩ | ⟨_, e, _⟩ | ⟨e, _⟩ | ⟨_, _, _, h2⟩
  · exact e
  · exact e
  · exact e
  · rcases h2 with ⟨_, e, _⟩ | ⟨_, e, _⟩ | ⟨CF1, _, _, h4⟩
    · exact e
    · exact e
    · rcases h4 with ⟨_, e, _⟩ | ⟨e, _⟩
      · exact e
      · rw [e] at hr
        exact absurd hr (nI_pos (by have := I.hP; omega))
theorem rlK.upd1 {S : Stk} {mw : Nat → Int64} {zi : Int32} {sf : Nat → Int32} {p : Nat} (K9 : rlK S mw zi sf) (h1 : bt mw p = true) : rlK S mw zi (upd sf p 1) := ⟨K9.1, fun q hq => by
  by_cases e : q = p
  · rw [e, upd_eq]; exact Or.inl ⟨rfl, h1⟩
  · rw [upd_ne _ e]; exact K9.2.1 q hq, K9.2.2⟩
/-- a patch was settled, and its set has it now -/
theorem rlS.wfb {S S1 : Stk} {Z Z₇ : StkA} {b : Nat → Int32} (B : rlS S Z) (I₇ : sInv (S1.wf b)) (R' : rep (S1.wf b) Z₇) (hby : ∀ j, j < 290000 → by1 (b j) = b j) (hhs : ∀ j, Z₇.hs j = Z.hs j ∨ by1 (Z₇.hs j) = Z₇.hs j) : rlS (S1.wf b) Z₇ := ⟨I₇, R', hby, fun j hj => by
  rcases hhs j with e | e
  · rw [e]; exact B.2.2.2 j hj
  · exact e⟩
theorem cpy_by1 {f t : Nat → Int32} {a n : Nat} (hf : ∀ j, j < 290000 → by1 (f j) = f j) (ht : ∀ j, j < 65536 → by1 (t j) = t j) (hn : n ≤ 65536) : ∀ j, j < 290000 → by1 (va_cpy t f 0 a n j) = va_cpy t f 0 a n j := fun j hj => by
  unfold va_cpy
  by_cases z : a ≤ j ∧ j < a + n
  · rw [if_pos z]; exact ht _ (by omega)
  · rw [if_neg z]; exact hf j hj
/-! what taking answers -/
theorem rd_ok {S S1 : Stk} {p : Nat} {r0 r t ft ft' : Int32} {n n' sp sp₇ : Nat} {sf sf₇ : Nat → Int32} (hp : p < 500) (hS : S1.P ≤ 500) (h : rdO r0 r t n n') (g : tkO S S1 (nI p) r0 ft ft' sf sf₇ sp sp₇) : r = nI p ∧ t = 0 ∧ n' = 0 ∧ ft' = ft ∧ sf₇ = upd sf p 1 ∧ sp₇ = sp + 1 := by
  have ne : ∀ v : Int32, v < 0 → ¬ nI p = v := fun v hv e => nI_pos (n := p) (by omega) (by rw [e]; exact hv)
  rcases g with ⟨g0, _⟩ | ⟨g0, _⟩ | ⟨q, g0, g1, g2, g3, g4, g5⟩
  · rcases g0 with z | z | z | z
    · exact absurd z (ne _ (by decide))
    · exact absurd z (ne _ (by decide))
    · exact absurd z (ne _ (by decide))
    · exact absurd z (ne _ (by decide))
  · exact absurd g0 (ne _ (by decide))
  · have e := (nI_eq (a := p) (b := q) (by omega) (by omega)).mp g1
    rcases h with ⟨z, _⟩ | ⟨z, _⟩ | ⟨q', h1, h2, h3, h4, h5⟩
    · exact absurd (g1.trans (g2.symm.trans z)) (ne _ (by decide))
    · exact absurd (g1.trans (g2.symm.trans z)) (ne _ (by decide))
    · exact ⟨h3.trans (g2.trans g1.symm), h4, h5, g3, by rw [g4, e], g5⟩
theorem fn_ok {S S1 : Stk} {p : Nat} {r0 r t k ft ft' : Int32} {n n' sp sp₇ : Nat} {sf sf₇ : Nat → Int32} (hp : p < 500) (hS : S1.P ≤ 500) (h : fnO r0 r t k n n') (g : tkO S S1 (nI p) r0 ft ft' sf sf₇ sp sp₇) : r = nI p ∧ t = 0 ∧ n' = 0 ∧ sf₇ = upd sf p 1 ∧ sp₇ = sp + 1 := by
  have ne : ∀ v : Int32, v < 0 → ¬ nI p = v := fun v hv e => nI_pos (n := p) (by omega) (by rw [e]; exact hv)
  rcases g with ⟨g0, _⟩ | ⟨g0, _⟩ | ⟨q, g0, g1, g2, g3, g4, g5⟩
  · rcases g0 with z | z | z | z
    · exact absurd z (ne _ (by decide))
    · exact absurd z (ne _ (by decide))
    · exact absurd z (ne _ (by decide))
    · exact absurd z (ne _ (by decide))
  · exact absurd g0 (ne _ (by decide))
  · have e := (nI_eq (a := p) (b := q) (by omega) (by omega)).mp g1
    rcases h with ⟨z, _⟩ | ⟨q', h1, h2, h3, h4, h5⟩
    · rcases z with z | z
      · exact absurd (g1.trans (g2.symm.trans z)) (ne _ (by decide))
      · exact absurd (g1.trans (g2.symm.trans z)) (ne _ (by decide))
    · exact ⟨h3.trans (g2.trans g1.symm), h4, h5, by rw [g4, e], g5⟩
theorem nI_n5 {q : Nat} (hq : q < 501) {v : Int32} (hv : v < 0) : ¬ v = nI q := fun e => nI_pos (n := q) (by omega) (by rw [← e]; exact hv)
theorem rd_bad {S S1 : Stk} {r1 r0 r t ft ft' : Int32} {n n' sp sp₇ : Nat} {sf sf₇ : Nat → Int32} (hS : S1.P ≤ 500) (h1 : r1 < 0) (h5 : ¬ r1 = -5) (h : rdO r0 r t n n') (g : tkO S S1 r1 r0 ft ft' sf sf₇ sp sp₇) : r = 0 ∧ t = 2 ∧ n' = n ∧ ft' = -r1 ∧ sf₇ = sf ∧ sp₇ = sp := by
  rcases g with ⟨_, g1, g2, g3, g4, _⟩ | ⟨g0, _⟩ | ⟨q, g0, g1, _⟩
  · rcases h with ⟨_, e2, e3, e4⟩ | ⟨z, _⟩ | ⟨q, z, hq, _⟩
    · exact ⟨e2, e3, e4, g2, g3, g4⟩
    · exact absurd (g1.symm.trans z) (by decide)
    · exact absurd (g1.symm.trans z) (nI_n5 hq (by decide))
  · exact absurd g0 h5
  · exact absurd g1 (nI_n5 (by omega) h1)
theorem rd_full {S S1 : Stk} {r0 r t ft ft' : Int32} {n n' sp sp₇ : Nat} {sf sf₇ : Nat → Int32} (hS : S1.P ≤ 500) (h : rdO r0 r t n n') (g : tkO S S1 (-5) r0 ft ft' sf sf₇ sp sp₇) : r = 0 ∧ t = 3 ∧ n' = n ∧ ft' = ft ∧ sf₇ = sf ∧ sp₇ = sp := by
  rcases g with ⟨g0, _⟩ | ⟨_, g1, g2, g3, g4, _⟩ | ⟨q, g0, g1, _⟩
  · rcases g0 with z | z | z | z <;> exact absurd z (by decide)
  · rcases h with ⟨z, _⟩ | ⟨_, e2, e3, e4⟩ | ⟨q, z, hq, _⟩
    · exact absurd (g1.symm.trans z) (by decide)
    · exact ⟨e2, e3, e4, g2, g3, g4⟩
    · exact absurd (g1.symm.trans z) (nI_n5 hq (by decide))
  · exact absurd g1 (nI_n5 (by omega) (by decide))
theorem fn_bad {S S1 : Stk} {r1 r0 r t k ft ft' : Int32} {n n' sp sp₇ : Nat} {sf sf₇ : Nat → Int32} (hS : S1.P ≤ 500) (h1 : r1 < 0) (h : fnO r0 r t k n n') (g : tkO S S1 r1 r0 ft ft' sf sf₇ sp sp₇) : r = 0 ∧ t = k ∧ n' = n ∧ sf₇ = sf ∧ sp₇ = sp := by
  have key : (r0 = -1 ∨ r0 = -2) ∧ sf₇ = sf ∧ sp₇ = sp := by
    rcases g with ⟨_, g1, _, g3, g4, _⟩ | ⟨_, g1, _, g3, g4, _⟩ | ⟨q, g0, g1, _⟩
    · exact ⟨Or.inl g1, g3, g4⟩
    · exact ⟨Or.inr g1, g3, g4⟩
    · exact absurd g1 (nI_n5 (by omega) h1)
  rcases h with ⟨_, e2, e3, e4⟩ | ⟨q, z, hq, _⟩
  · exact ⟨e2, e3, e4, key.2.1, key.2.2⟩
  · rcases key.1 with y | y
    · exact absurd (y.symm.trans z) (nI_n5 hq (by decide))
    · exact absurd (y.symm.trans z) (nI_n5 hq (by decide))
theorem rd_bf {S : Stk} {tf : Nat → Int32} {tn : Nat} : ∀ i, i < S.FR S.P → S.f i = va_cpy tf S.f 0 (S.FR S.P) tn i := fun i hi => by
  unfold va_cpy
  rw [if_neg (by omega)]
theorem rd_in {S : Stk} {tf : Nat → Int32} {tn : Nat} : ∀ i, i < tn → tf i = va_cpy tf S.f 0 (S.FR S.P) tn (S.FR S.P + i) := fun i hi => by
  unfold va_cpy
  rw [if_pos ⟨by omega, by omega⟩, Nat.add_sub_cancel_left, Nat.zero_add]
theorem rlE.kp {G G₇ : Gr} {ge gw gc : Nat → Option Nat} (h : rlE G ge gw gc) (k : gKp G G₇) : rlE G₇ ge gw gc := by
  obtain ⟨k1, k2, k3, _⟩ := k
  unfold rlE
  rw [k1, k2, k3]
  exact h
theorem tkS.od {Od Od' Bf : Nat → Nat → Prop} {P0 : Nat → Prop} (h : ∀ x y, P0 x → P0 y → Od x y → Od' x y) : ∀ {T : List Nat} {U : Nat} {left : Nat → Prop}, (∀ l, left l → P0 l) → tkS Od Bf T U left → tkS Od' Bf T U left
  | [], _, _, _, q => q
  | x :: T, U, left, hl, ⟨q1, q2, V, q3, q4⟩ => ⟨q1, fun y hy => (q2 y hy).elim Or.inl (fun z => Or.inr (h x y (hl x q1.1) (hl y hy.1) z)), V, tkS.od h (fun l z => hl l z.1) q3, q4⟩
theorem rlW.hh {S : Stk} {G G₇ : Gr} {MW : Nat → Nat → Int64} {sp : Nat} {wst wrp wfl : Int32} {pl de mb tx : Nat → Int32} {U mq kk : Nat} (I : sInv S) (hH : ∀ p, p < S.P → ∀ j, j < 32 → G₇.H p j = G.H p j) (hW : G₇.W = G.W) (V : rlW S G MW sp wst wrp wfl pl de mb tx U mq kk) : rlW S G₇ MW sp wst wrp wfl pl de mb tx U mq kk := by
  obtain ⟨V1, ML, T, q0⟩ := V
  refine ⟨V1, ML, T, fun k y hk hy z1 z2 z3 => ?_⟩
  obtain ⟨a1, a2, a3, a4, a5, a6, a7, a8, a9, a10⟩ := q0 k y hk hy z1 z2 z3
  have hs : ∀ p, p < S.P → sq (G₇.H p) 0 32 = sq (G.H p) 0 32 := fun p hp => sq_congr 32 _ _ (fun j hj => by rw [Nat.zero_add]; exact hH p hp j hj)
  have hc : ∀ l, l ∈ rowL S (MW k) y → S.pc (lcS S l) < S.P := fun l hl => by
    obtain ⟨c, q, hc, h2, hq, e, _, _⟩ := I.rowm hl
    have f1 := I.lnf hc h2 hq
    rw [e, f1.2.1]
    exact (I.pcs hc).1
  refine ⟨a1, a2, a3, a4, a5, a6, a7, by rw [hW]; exact a8, a9, tkS.od (P0 := fun l => l ∈ rowL S (MW k) y) (fun x w hx hw z => ?_) (fun l z => z.1) a10⟩
  unfold lkL kyG at z ⊢
  rw [hs _ (hc x hx), hs _ (hc w hw)]
  exact z

