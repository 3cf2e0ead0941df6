/-! 99zzt.counts.lean.txt -/
theorem cnt_take {b : Nat → Bool} {p : Nat → Bool} {L : List Nat} (h : ∀ a, a < L.length → b a = p (L.getD a 0)) : ∀ n, n ≤ L.length → cnt b n = ((L.take n).filter p).length
  | 0, _ => rfl
  | n + 1, hn => by
    have ih := cnt_take h n (by omega)
    have hl : n < L.length := by omega
    have e : L.take (n + 1) = L.take n ++ [L.getD n 0] := by
      rw [List.take_add_one, List.getElem?_eq_getElem hl, List.getD_eq_getElem?_getD, List.getElem?_eq_getElem hl]
      rfl
    rw [e, List.filter_append, List.length_append, ← ih]
    by_cases z : b n = true
    · have z2 : p (L.getD n 0) = true := by rw [← h n hl]; exact z
      rw [← cnt_yes z, List.filter_cons, if_pos z2]; rfl
    · have z2 : ¬ p (L.getD n 0) = true := by rw [← h n hl]; exact z
      rw [← cnt_no z, List.filter_cons, if_neg z2]; rfl
/-- what is counted over the members does not hang on their order -/
theorem cnt_same {L K : List Nat} (hL : L.Nodup) (hK : K.Nodup) (hm : ∀ x, x ∈ L ↔ x ∈ K) {b c : Nat → Bool} {Q : Nat → Prop} (hb : ∀ a, a < L.length → (b a = true ↔ Q (L.getD a 0))) (hc : ∀ a, a < K.length → (c a = true ↔ Q (K.getD a 0))) : cnt b L.length = cnt c K.length := by
  have e1 : ∀ {M : List Nat} {d : Nat → Bool}, (∀ a, a < M.length → (d a = true ↔ Q (M.getD a 0))) → cnt d M.length = (M.filter (fun x => @decide (Q x) (Classical.propDecidable _))).length := fun {M} {d} hd => by
    have := cnt_take (b := d) (p := fun x => @decide (Q x) (Classical.propDecidable _)) (L := M) (fun a ha => by
      rw [Bool.eq_iff_iff, hd a ha]
      exact (@decide_eq_true_iff _ (Classical.propDecidable _)).symm) M.length (Nat.le_refl _)
    rw [List.take_length] at this
    exact this
  rw [e1 hb, e1 hc]
  refine Nat.le_antisymm (nd_sub (hL.filter _) (fun x hx => ?_)) (nd_sub (hK.filter _) (fun x hx => ?_))
  · obtain ⟨z1, z2⟩ := List.mem_filter.mp hx
    exact List.mem_filter.mpr ⟨(hm x).mp z1, z2⟩
  · obtain ⟨z1, z2⟩ := List.mem_filter.mp hx
    exact List.mem_filter.mpr ⟨(hm x).mpr z1, z2⟩
/-- a neighbour is lost in the class where it is gone in the reference -/
theorem mrp.lost {S : Stk} {Z : Mda} {G : Gr} {sf : Nat → Int32} {mw : Nat → Int64} (M : mrp S Z G) (I : sInv S) (F : fb sf mw S.P) {y p : Nat} {nv : Int32} (hp : p < S.P) (hv : nv = -1 ∨ ∃ q, q ∈ rowL S mw y ∧ nv = nI q) : lostL S (dS S mw y S.P) p nv ↔ (¬ nv < 0 ∧ gnR sf (S.FC S.P) S.pc (kdS S) Z.on (fun a b => btr S.lo (a * 8) b = true) p nv) := by
  have hN := I.nlP
  have hP := I.hP
  constructor
  · rintro ⟨v, q, e, hv4, hq, ⟨h1, h2, j, hj, h3, hy, x, hx, ex⟩, hk⟩
    have hc : S.FC q + j < S.FC S.P := by have := (I.bounds h1).1; omega
    have hpc := I.pca h1 hj
    obtain ⟨x', l', a1, a2, a3, a4, a5, a6, _⟩ := M.in34 I hc (Or.inl h3)
    rw [hpc] at a1
    have ex' : x' = x := cnR.uniq (I.nd5 h1) a1 hx
    have el : l' = v := by rw [a2, ex, ex']
    rw [el] at a3
    refine ⟨by rw [e]; exact nI_pos (by omega), S.FC q + j, hc, (I.kdi hc (by decide)).mpr h3, by rw [a3, e], by rw [hpc]; exact (F.one h1).mpr h2, ?_, ?_, ?_⟩
    · rw [hpc]; exact fun z => hk (Or.inr (Or.inr z))
    · rw [hpc]
      intro z
      refine hk (Or.inr (Or.inl ?_))
      rw [I.lbz p q (by omega) hq, z, decide_eq_true h1]; rfl
    · rw [hpc]; exact fun z => hk (Or.inl z)
  · rintro ⟨h0, c, hc, hk, ho, hs, n1, n2, n3⟩
    have hk3 := (I.kdi hc (by decide)).mp hk
    obtain ⟨hq, j, hj, e⟩ := I.pcs hc
    obtain ⟨x', l', a1, a2, a3, a4, a5, a6, _⟩ := M.in34 I hc (Or.inl hk3)
    rcases hv with z | ⟨q', z1, z2⟩
    · rw [z] at h0; exact absurd (by decide) h0
    · have r := (mrp.row I F).mp z1
      have r1 := r.1
      have el : l' = q' := (nI_eq (a := l') (b := q') (by omega) (by omega)).mp (a3.symm.trans (ho.trans z2))
      refine ⟨l', S.pc c, by rw [el]; exact z2, by omega, by omega, ⟨hq, (F.one hq).mp hs, j, hj, by rw [← e]; exact hk3, ?_, x', ?_, ?_⟩, ?_⟩
      · rw [← e, ← a6, ← a5, el]; exact r.2.1
      · rw [← e]; exact a1
      · rw [← e]; exact a2
      · rintro (w | w | w)
        · exact n3 w
        · rw [I.lbz p (S.pc c) (by omega) (by omega), Bool.and_eq_true] at w
          exact n2 w.2
        · exact n1 w

