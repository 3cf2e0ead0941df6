/-! 99zzzybt.recb.lean.txt -/
/-! how long a record is -/
theorem rec_b2 {S : Stk} {pl tf : Nat → Int32} {PC LC NA NZ : Nat → Nat} {ac tn nt no : Nat} {bf E : Nat → Nat → Bool} {T : List Nat} {RCs : List (List (List Int32 ⊕ Nat))} (hW : spW tf tn NA NZ nt) (hno : no ≤ 200) (hnt : nt ≤ 200) (hR : RCs = rcC S LC tf NA NZ ac bf ((wkD E no nt (no + nt)).map (fun i => T.getD i 0)) ((wkK E no nt (no + nt)).map (fun x => T.getD x.1 0)) ((wkK E no nt (no + nt)).map (fun x => x.2)) nt) : (chL S pl PC RCs).length ≤ 72800 ∧ RCs.length ≤ 601 := by
  have hwv := wkV_all E no nt (no + nt)
  have z1 := hwv.1
  have z2 := hwv.2.2.1
  unfold wkL wkM at z2
  have h := rcC_len S pl PC LC tf NA NZ ac bf ((wkD E no nt (no + nt)).map (fun i => T.getD i 0)) ((wkK E no nt (no + nt)).map (fun x => T.getD x.1 0)) ((wkK E no nt (no + nt)).map (fun x => x.2)) nt hW.2.2.1 (wk_gpO E no nt) (by rw [List.length_map, List.length_map])
  rw [← hR, List.length_map, List.length_map] at h
  have h3 := hW.2.2.2
  omega
/-- three things that are equal, put in their places at once -/
theorem cg3 {α β γ : Type} (f : α → β → γ → Prop) {a a' : α} {b b' : β} {c c' : γ} (ha : a = a') (hb : b = b') (hc : c = c') (h : f a b c) : f a' b' c' := by
  subst ha
  subst hb
  subst hc
  exact h
/-- where an address bears the name -/
abbrev lcA9 := @lcA

