/-! 99zzzta.yf.lean.txt -/
/-- a file of a list is a file -/
theorem mrp.yf {S : Stk} {Zm : Mda} {G : Gr} {sf : Nat → Int32} {mw : Nat → Int64} (M : mrp S Zm G) (I : sInv S) (F : fb sf mw S.P) {k y : Nat} (hk : k < (filL S mw).length) (e : y = (filL S mw).getD k 0) : y ∈ filL S mw ∧ y < S.NFp S.P := by
  have h : y ∈ filL S mw := by rw [e]; exact getD_mem hk
  exact ⟨h, ((M.fil I F).mpr h).1⟩
theorem mrp.yf4 {S : Stk} {Zm : Mda} {G : Gr} {sf : Nat → Int32} {mw : Nat → Int64} (M : mrp S Zm G) (I : sInv S) (F : fb sf mw S.P) {k y : Nat} (hk : k < (filL S mw).length) (e : y = (filL S mw).getD k 0) : y < 40000 := by
  have h := (M.yf I F hk e).2
  have := I.nfP
  omega
