/-! 99zzi.bridge6.lean.txt -/
/-- the lines that are left, by slots -/
def LFS (L : List Nat) (go : Nat → Int32) (l : Nat) : Prop := ∃ a, a < L.length ∧ L.getD a 0 = l ∧ go a = 0
theorem wtB_iff {re : Nat → Int64} {go : Nat → Int32} {a o : Nat} : wtB re go a o = true ↔ (go o = 0 ∧ befB re o a = true) := by
  unfold wtB
  rw [Bool.and_eq_true, beq_iff_eq]
theorem frB_iff {re : Nat → Int64} {go : Nat → Int32} {n a : Nat} : frB re go n a = true ↔ (go a = 0 ∧ wtN re go n a = 0) := by
  unfold frB
  rw [Bool.and_eq_true, beq_iff_eq, beq_iff_eq]
theorem nd_inj {L : List Nat} (h : L.Nodup) {a b : Nat} (ha : a < L.length) (hb : b < L.length) (e : L.getD a 0 = L.getD b 0) : a = b := by
  rw [List.nodup_iff_pairwise_ne, List.pairwise_iff_getElem] at h
  rw [List.getD_eq_getElem?_getD, List.getD_eq_getElem?_getD, List.getElem?_eq_getElem ha, List.getElem?_eq_getElem hb] at e
  have e : L[a] = L[b] := e
  rcases Nat.lt_trichotomy a b with z | z | z
  · exact absurd e (h a b ha hb z)
  · exact z
  · exact absurd e.symm (h b a hb ha z)
theorem frB_fr {Bf : Nat → Nat → Prop} {L : List Nat} {re : Nat → Int64} {go : Nat → Int32} (hB : ∀ a b, a < L.length → b < L.length → (befB re a b = true ↔ Bf (L.getD a 0) (L.getD b 0))) (hn : L.Nodup) {a : Nat} (ha : a < L.length) : frB re go L.length a = true ↔ frL Bf (LFS L go) (L.getD a 0) := by
  rw [frB_iff]
  constructor
  · rintro ⟨h1, h2⟩
    refine ⟨⟨a, ha, rfl, h1⟩, fun m hm z => ?_⟩
    obtain ⟨o, ho, e, hg⟩ := hm
    have : 0 < wtN re go L.length a := cnt_of ho (wtB_iff.mpr ⟨hg, (hB o a ho ha).mpr (by rw [e]; exact z)⟩)
    omega
  · rintro ⟨⟨b, hb, e, hg⟩, h2⟩
    have e1 := nd_inj hn hb ha e
    refine ⟨by rw [← e1]; exact hg, ?_⟩
    by_cases z : 0 < wtN re go L.length a
    · obtain ⟨o, ho, y⟩ := cnt_pos z
      obtain ⟨y1, y2⟩ := wtB_iff.mp y
      exact absurd ((hB o a ho ha).mp y2) (h2 _ ⟨o, ho, rfl, y1⟩)
    · omega
/-- a slot that is not gone, as a bit -/
def gzB (go : Nat → Int32) (a : Nat) : Bool := go a == 0
theorem grd_tk {Od Bf : Nat → Nat → Prop} {L : List Nat} {re : Nat → Int64} (hB : ∀ a b, a < L.length → b < L.length → (befB re a b = true ↔ Bf (L.getD a 0) (L.getD b 0))) (hn : L.Nodup) (ho : ∀ a b, a < b → b < L.length → Od (L.getD a 0) (L.getD b 0)) : ∀ (k : Nat) (go : Nat → Int32), cnt (gzB go) L.length ≤ k → tkS Od Bf (asL L (gL re L.length k go)) (gU re L.length k go) (LFS L go)
  | 0, go, hk => by
    rw [(gL_zero re L.length go).1, (gL_zero re L.length go).2]
    refine ⟨rfl, fun l hl => ?_⟩
    obtain ⟨a, ha, _, hg⟩ := hl.1
    have : 0 < cnt (gzB go) L.length := cnt_of ha (by unfold gzB; rw [hg]; rfl)
    omega
  | k + 1, go, hk => by
    cases e : lfO (frB re go L.length) L.length with
    | none =>
      rw [(gL_none e (by omega)).1, (gL_none e (by omega)).2]
      refine ⟨rfl, fun l hl => ?_⟩
      obtain ⟨a, ha, ea, _⟩ := hl.1
      rw [← ea] at hl
      have h1 := (frB_fr hB hn ha).mpr hl
      rw [lfO_none e a ha] at h1
      cases h1
    | some a =>
      obtain ⟨s1, s2, s3⟩ := lfO_spec e
      have hg := (frB_iff.mp s2).1
      have e1 : ∀ i, gzB (upd go a 1) i = (gzB go i && !decide (i = a)) := fun i => by
        unfold gzB
        by_cases z : i = a
        · subst z; rw [upd_eq]; simp
        · rw [upd_ne _ z]; simp [z]
      have e2 : gzB go a = true := by unfold gzB; rw [hg]; rfl
      have h3 := cnt_un e1 e2 L.length
      rw [if_pos s1] at h3
      have ih := grd_tk hB hn ho k (upd go a 1) (by omega)
      rw [(gL_some e (by omega)).1, (gL_some e (by omega)).2, Nat.add_sub_cancel]
      have key : ∀ y, frL Bf (LFS L go) y → ∃ b, b < L.length ∧ L.getD b 0 = y ∧ frB re go L.length b = true := fun y hy => by
        obtain ⟨b, hb, eb, _⟩ := hy.1
        exact ⟨b, hb, eb, (frB_fr hB hn hb).mpr (by rw [eb]; exact hy)⟩
      refine ⟨(frB_fr hB hn s1).mp s2, fun y hy => ?_, gU re L.length k (upd go a 1), ih.congr (fun l => ?_), ?_⟩
      · obtain ⟨b, hb, eb, hf⟩ := key y hy
        rcases Nat.lt_trichotomy b a with z | z | z
        · rw [s3 b z] at hf; cases hf
        · exact Or.inl (by rw [← eb, z])
        · exact Or.inr (by rw [← eb]; exact ho a b z hb)
      · constructor
        · rintro ⟨b, hb, eb, hgb⟩
          have hne : ¬ b = a := fun z => by rw [z, upd_eq] at hgb; exact absurd hgb (by decide)
          rw [upd_ne _ hne] at hgb
          exact ⟨⟨b, hb, eb, hgb⟩, fun z => hne (nd_inj hn hb s1 (eb.trans z))⟩
        · rintro ⟨⟨b, hb, eb, hgb⟩, hne⟩
          exact ⟨b, hb, eb, by rw [upd_ne _ (fun z => hne (by rw [← eb, z]))]; exact hgb⟩
      · by_cases c : 2 ≤ cnt (frB re go L.length) L.length
        · rw [if_pos c]
          obtain ⟨y, hy, h1, h2⟩ := (cnt2 s1 s2).mp (by omega)
          exact Or.inl ⟨⟨L.getD y 0, (frB_fr hB hn hy).mp h1, fun z => h2 (nd_inj hn hy s1 z)⟩, rfl⟩
        · rw [if_neg c]
          refine Or.inr ⟨fun y hy => ?_, rfl⟩
          obtain ⟨b, hb, eb, hf⟩ := key y hy
          by_cases z : b = a
          · rw [← eb, z]
          · exact absurd ((cnt2 s1 s2).mpr ⟨b, hb, hf, z⟩) (by omega)
/-- the text of the class is taken as the reference takes it -/
theorem mrp.txt {S : Stk} {Z : Mda} {G : Gr} {sf : Nat → Int32} {mw : Nat → Int64} (M : mrp S Z G) (I : sInv S) (F : fb sf mw S.P) (C : clo S mw) {y : Nat} {re : Nat → Int64} {go : Nat → Int32} (hb : bR re (rowL S mw y).length (pth (edG S mw y) 0 (rowL S mw y).length)) (hg : gR go (rowL S mw y) (deG S mw y)) : tkS (lkL G.H S.pc (lcS S)) (Bfr (pth (gEd sf (S.FC S.P) S.pc (kdS S) S.CF (lcS S) S.CL (nLn S) Z.on Z.tw y) 0 4000)) (asL (rowL S mw y) (gL re (rowL S mw y).length ((rowL S mw y).length - dnG S mw y) go)) (gU re (rowL S mw y).length ((rowL S mw y).length - dnG S mw y) go) (fun l => gIn sf (S.NLp S.P) S.pc S.CF (lcS S) y l ∧ ¬ gDe sf (S.FC S.P) S.pc (kdS S) S.CF (lcS S) Z.on y l) := by
  have hN := I.nlP
  have hrow : ∀ {x}, x ∈ rowL S mw y ↔ gIn sf (S.NLp S.P) S.pc S.CF (lcS S) y x := fun {x} => mrp.row I F
  have h4 := I.rowl mw y
  have hW : ∀ a b, b < (rowL S mw y).length → (pth (edG S mw y) 0 (rowL S mw y).length a b ↔ pth (gEd sf (S.FC S.P) S.pc (kdS S) S.CF (lcS S) S.CL (nLn S) Z.on Z.tw y) 0 4000 ((rowL S mw y).getD a 0) ((rowL S mw y).getD b 0)) := fun a b hbl => by
    rw [← pth_map (ML := rowL S mw y) (fun x hx => by have := (hrow.mp hx).1; omega) (fun l m ⟨c, c1, c2, c3⟩ => hrow.mpr ((M.edl I F C c c1 c2).inn (fun x hx => by have := hx.1; omega) c3).2) hbl]
    have e : ∀ k a b, b < (rowL S mw y).length → (ptN (edG S mw y) 0 (rowL S mw y).length k a b ↔ ptN (fun i j => gEd sf (S.FC S.P) S.pc (kdS S) S.CF (lcS S) S.CL (nLn S) Z.on Z.tw y ((rowL S mw y).getD i 0) ((rowL S mw y).getD j 0)) 0 (rowL S mw y).length k a b) := fun k => by
      induction k with
      | zero => intro a b hb; exact ⟨fun z => (M.edg I F).mp z.2, fun z => ⟨hb, (M.edg I F).mpr z⟩⟩
      | succ k ih =>
        intro a b hb
        constructor
        · rintro ⟨v, v1, v2, v3, v4⟩
          exact ⟨v, v1, v2, (M.edg I F).mp v3.2, (ih v b hb).mp v4⟩
        · rintro ⟨v, v1, v2, v3, v4⟩
          exact ⟨v, v1, v2, ⟨v2, (M.edg I F).mpr v3⟩, (ih v b hb).mpr v4⟩
    exact ⟨fun ⟨k, z⟩ => ⟨k, (e k a b hbl).mp z⟩, fun ⟨k, z⟩ => ⟨k, (e k a b hbl).mpr z⟩⟩
  have hB : ∀ a b, a < (rowL S mw y).length → b < (rowL S mw y).length → (befB re a b = true ↔ Bfr (pth (gEd sf (S.FC S.P) S.pc (kdS S) S.CF (lcS S) S.CL (nLn S) Z.on Z.tw y) 0 4000) ((rowL S mw y).getD a 0) ((rowL S mw y).getD b 0)) := fun a b ha hbl => by
    unfold befB Bfr
    rw [Bool.and_eq_true, Bool.not_eq_true', hb a b ha (by omega), hW a b hbl, ← hW b a ha, ← hb b a hbl (by omega), Bool.not_eq_true]
  have hdn : cnt (gzB go) (rowL S mw y).length ≤ (rowL S mw y).length - dnG S mw y := by
    have h1 : ∀ n, n ≤ (rowL S mw y).length → cnt (gzB go) n + cnt (dB (rowL S mw y) (deG S mw y)) n = n := fun n => by
      induction n with
      | zero => intro _; rfl
      | succ n ih =>
        intro hn
        have h2 := ih (by omega)
        rcases hg n (by omega) with ⟨z1, z2⟩ | ⟨z1, z2⟩
        · have e1 : ¬ gzB go n = true := by unfold gzB; rw [z1]; decide
          have e2 : dB (rowL S mw y) (deG S mw y) n = true := dB_iff.mpr z2
          rw [← cnt_no e1, ← cnt_yes e2]; omega
        · have e1 : gzB go n = true := by unfold gzB; rw [z1]; rfl
          have e2 : ¬ dB (rowL S mw y) (deG S mw y) n = true := fun z => z2 (dB_iff.mp z)
          rw [← cnt_yes e1, ← cnt_no e2]; omega
    have := h1 _ (Nat.le_refl _)
    unfold dnG
    omega
  have hp := M.rowS I mw y
  rw [List.pairwise_iff_getElem] at hp
  refine (grd_tk (Od := lkL G.H S.pc (lcS S)) hB (M.rowN I mw y) (fun a b hab hbl => ?_) _ go hdn).congr (fun l => ?_)
  · have := hp a b (by omega) hbl hab
    rw [List.getD_eq_getElem?_getD, List.getD_eq_getElem?_getD, List.getElem?_eq_getElem hbl, List.getElem?_eq_getElem (show a < (rowL S mw y).length by omega)]
    exact this
  · rw [← hrow, ← M.del I F]
    constructor
    · rintro ⟨a, ha, e, hz⟩
      rcases hg a ha with ⟨z1, z2⟩ | ⟨z1, z2⟩
      · rw [hz] at z1; exact absurd z1 (by decide)
      · rw [e] at z2; exact ⟨by rw [← e]; exact getD_mem ha, z2⟩
    · rintro ⟨h1, h2⟩
      obtain ⟨a, ha, e⟩ := mem_getD h1
      rcases hg a ha with ⟨z1, z2⟩ | ⟨z1, z2⟩
      · rw [e] at z2; exact absurd z2 h2
      · exact ⟨a, ha, e, z1⟩
/-- both take the same lines, and are unsure as often -/
theorem mrp.same {S : Stk} {Z : Mda} {G : Gr} {sf : Nat → Int32} {mw : Nat → Int64} (M : mrp S Z G) (I : sInv S) (F : fb sf mw S.P) (C : clo S mw) {y : Nat} {re : Nat → Int64} {go : Nat → Int32} {T : List Nat} {U : Nat} (hb : bR re (rowL S mw y).length (pth (edG S mw y) 0 (rowL S mw y).length)) (hg : gR go (rowL S mw y) (deG S mw y)) (ht : tkS (lkL G.H S.pc (lcS S)) (Bfr (pth (gEd sf (S.FC S.P) S.pc (kdS S) S.CF (lcS S) S.CL (nLn S) Z.on Z.tw y) 0 4000)) T U (fun l => gIn sf (S.NLp S.P) S.pc S.CF (lcS S) y l ∧ ¬ gDe sf (S.FC S.P) S.pc (kdS S) S.CF (lcS S) Z.on y l)) : T = asL (rowL S mw y) (gL re (rowL S mw y).length ((rowL S mw y).length - dnG S mw y) go) ∧ U = gU re (rowL S mw y).length ((rowL S mw y).length - dnG S mw y) go := ht.uniq (fun a b h1 h2 => lkL.ir _ (lkL.tr _ _ _ h1 h2)) (M.txt I F C hb hg)

