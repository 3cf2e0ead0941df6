/-! 99zzu.stranded.lean.txt -/
theorem slR.nd {sl : Nat → Int32} {L : List Nat} (h : slR sl L) (hl : L.length ≤ 400) : L.Nodup := by
  rw [List.nodup_iff_pairwise_ne, List.pairwise_iff_getElem]
  intro a b ha hb hab e
  have := h.inj hl ha hb (by
    rw [List.getD_eq_getElem?_getD, List.getD_eq_getElem?_getD, List.getElem?_eq_getElem ha, List.getElem?_eq_getElem hb]
    exact e)
  omega
/-- both count the dead lines alike -/
theorem mrp.deadN {S : Stk} {Z : Mda} {G : Gr} {sf : Nat → Int32} {mw : Nat → Int64} (M : mrp S Z G) (I : sInv S) (F : fb sf mw S.P) {y : Nat} {ML : List Nat} {pl de : Nat → Int32} (h3 : ML.length ≤ 400) (h5 : slR pl ML) (h6 : ∀ x, x ∈ ML ↔ gIn sf (S.NLp S.P) S.pc S.CF (lcS S) y x) (h7 : dG de ML.length (fun a => ML.getD a 0) (gDe sf (S.FC S.P) S.pc (kdS S) S.CF (lcS S) Z.on y)) : cnt (wb de) ML.length = dnG S mw y := by
  unfold dnG
  refine cnt_same (Q := deG S mw y) (h5.nd h3) (M.rowN I mw y) (fun x => (h6 x).trans (mrp.row I F).symm) (fun a ha => ?_) (fun a ha => dB_iff)
  rw [M.del I F]
  unfold wb
  rw [beq_iff_eq]
  rcases h7 a ha with ⟨z1, z2⟩ | ⟨z1, z2⟩
  · exact ⟨fun _ => z2, fun _ => z1⟩
  · exact ⟨fun z => by rw [z1] at z; exact absurd z (by decide), fun z => absurd z z2⟩
/-- both count the stranded lines alike -/
theorem mrp.strN {S : Stk} {Z : Mda} {G : Gr} {sf : Nat → Int32} {mw : Nat → Int64} (M : mrp S Z G) (I : sInv S) (F : fb sf mw S.P) (C : clo S mw) {y : Nat} {ML : List Nat} {pl de : Nat → Int32} (h3 : ML.length ≤ 400) (h5 : slR pl ML) (h6 : ∀ x, x ∈ ML ↔ gIn sf (S.NLp S.P) S.pc S.CF (lcS S) y x) (h7 : dG de ML.length (fun a => ML.getD a 0) (gDe sf (S.FC S.P) S.pc (kdS S) S.CF (lcS S) Z.on y)) : cnt (sdB sf (S.FC S.P) S.pc (kdS S) (lcS S) (fun a => ML.getD a 0) Z.on Z.tw de (fun a b => btr S.lo (a * 8) b = true)) ML.length = cnt (sB S (rowL S mw y) (deG S mw y) (dS S mw y S.P) (fun x => S.pc (lcS S x))) (rowL S mw y).length := by
  refine cnt_same (Q := fun l => ¬ deG S mw y l ∧ (lostL S (dS S mw y S.P) (S.pc (lcS S l)) (S.lu l) ∨ lostL S (dS S mw y S.P) (S.pc (lcS S l)) (S.ld l))) (h5.nd h3) (M.rowN I mw y) (fun x => (h6 x).trans (mrp.row I F).symm) (fun a ha => ?_) (fun a ha => sB_iff)
  have hx := (h6 _).mp (getD_mem ha)
  have hm : ML.getD a 0 ∈ rowL S mw y := (mrp.row I F).mpr hx
  obtain ⟨g1, g2, g3, g4⟩ := I.lno hx.1
  have hp := (I.pcs g1).1
  have f3 := (M.in2 I g1 g2).2.2.1 (ML.getD a 0 - S.CL (lcS S (ML.getD a 0))) (by omega)
  rw [show S.CL (lcS S (ML.getD a 0)) + (ML.getD a 0 - S.CL (lcS S (ML.getD a 0))) = ML.getD a 0 by omega] at f3
  obtain ⟨_, _, c1, c2⟩ := C.gr I y _ hm
  have e0 : de a = 0 ↔ ¬ deG S mw y (ML.getD a 0) := by
    rw [M.del I F]
    rcases h7 a ha with ⟨z1, z2⟩ | ⟨z1, z2⟩
    · exact ⟨fun z => by rw [z1] at z; exact absurd z (by decide), fun z => absurd z2 z⟩
    · exact ⟨fun _ => z2, fun _ => z1⟩
  rw [sdB_iff, e0, M.lost I F hp c1, M.lost I F hp c2, ← f3.2.1, ← f3.2.2]

