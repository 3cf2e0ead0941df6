/-! 99zzzxa.made.lean.txt -/
/-! what is made: bytes, bounds, what is kept -/
theorem by4_len (v : Int32) : (by4 v).length = 4 := rfl
theorem wrM_in {b f : Nat → Int32} {a i : Nat} {L : List Int32} (h : i < L.length) : wrM b L i = wrL f a L (a + i) := by
  unfold wrM wrL
  rw [if_pos ⟨by omega, by omega⟩, if_pos ⟨by omega, by omega⟩, Nat.sub_zero, Nat.add_sub_cancel_left]
theorem wrM_by {b : Nat → Int32} {L : List Int32} (hb : ∀ j, j < 200000 → by1 (b j) = b j) (hL : byA L) : ∀ j, j < 200000 → by1 (wrM b L j) = wrM b L j := wrL_b9 (a := 0) hb hL
theorem wrM_nl (b : Nat → Int32) (L : List Int32) : wrM b L = wrM (wrM b L) ([] : List Int32) := (wrL_nil _ 0).symm
/-- the numbers that grow, where more than one grows -/
theorem rlJ.vwv {n : Nat} {RV : Nat → Nat} {vv rd tv sp r9 rd₇ rv₇ : Nat} (hr : r9 < 8) (hv : rv₇ ≤ RV r9 + 2) (hd : rd₇ ≤ rd + 1) (h : rlJ n RV vv rd tv sp) : rlJ (n + 1) (stN RV r9 rv₇) (RV r9) rd₇ tv (sp + 1) := by
  have z := h.ver (rv₇ := rv₇) hr hv
  exact ⟨z.1, by have := h.1 r9 hr; omega, by have := h.2.2.1; omega, z.2.2.2.1, z.2.2.2.2⟩
theorem rlJ.vws {n : Nat} {RV : Nat → Nat} {vv rd tv sp r9 rd₇ : Nat} (hr : r9 < 8) (hd : rd₇ ≤ rd + 1) (h : rlJ n RV vv rd tv sp) : rlJ (n + 1) RV (RV r9) rd₇ tv (sp + 1) := by
  have z := h.sp
  exact ⟨z.1, by have := h.1 r9 hr; omega, by have := h.2.2.1; omega, z.2.2.2.1, z.2.2.2.2⟩
theorem rlJ.txv {n : Nat} {RV : Nat → Nat} {vv rd tv sp r9 rd₇ rv₇ : Nat} (hr : r9 < 8) (hv : rv₇ ≤ RV r9 + 2) (hd : rd₇ ≤ rd + 1) (h : rlJ n RV vv rd tv sp) : rlJ (n + 1) (stN RV r9 rv₇) (RV r9) rd₇ (RV r9) (sp + 1) := by
  have z := h.vwv (rv₇ := rv₇) (rd₇ := rd₇) hr hv hd
  exact ⟨z.1, z.2.1, z.2.2.1, by have := h.1 r9 hr; omega, z.2.2.2.2⟩
theorem rlJ.txs {n : Nat} {RV : Nat → Nat} {vv rd tv sp r9 rd₇ : Nat} (hr : r9 < 8) (hd : rd₇ ≤ rd + 1) (h : rlJ n RV vv rd tv sp) : rlJ (n + 1) RV (RV r9) rd₇ (RV r9) (sp + 1) := by
  have z := h.vws (rd₇ := rd₇) hr hd
  exact ⟨z.1, z.2.1, z.2.2.1, by have := h.1 r9 hr; omega, z.2.2.2.2⟩
/-- what was worked out of a file -/
theorem rlW.mk {S : Stk} {Zm : Mda} {G G₇ : Gr} {SF : Nat → Nat → Int32} {MW : Nat → Nat → Int64} (M : mrp S Zm G) (I : sInv S) {r9 sp yf : Nat} (hr : r9 < 8) (hy : yf < 40000) (F : fb (SF r9) (MW r9) S.P) {X : Wku} (hH : G₇.H = G.H) (hW : G₇.W = X.W) (q : wkZ S Zm G (SF r9) yf X) : rlW S G₇ MW sp (nI sp) (nI r9) (nI yf) X.pl X.de X.mb X.tx X.U X.mq X.kk := by
  refine ⟨⟨sp, Nat.le_refl _, rfl⟩, X.ML, X.T, fun k y' hk hy' _ z2 z3 => ?_⟩
  have ek := (nI_eq (a := r9) (b := k) (by omega) (by omega)).mp z2
  have ey := (nI_eq (a := yf) (b := y') (by omega) (by omega)).mp z3
  subst ek
  subst ey
  rw [hH, hW]
  exact q.in M I F
/-- which patches a call names are patches -/
theorem sInv.pcL {S : Stk} (I : sInv S) : ∀ c, c < S.FC S.P → S.FC (S.pc c) ≤ c := fun c hc => by
  obtain ⟨_, j, _, e⟩ := I.pcs hc
  omega
theorem mrp.fcT {S : Stk} {Z : Mda} {G : Gr} (M : mrp S Z G) : ∀ p, p < S.P → Z.fc p = nI (S.FC p) ∧ True := fun p hp => ⟨(M.2.2.1 p (Nat.le_of_lt hp)).2, trivial⟩
theorem rlS.lcA {S : Stk} {Z : StkA} (B : rlS S Z) {mw : Nat → Int64} : ∀ c, c ∈ namL S mw → c < 38000 ∧ Z.cf c = nI (S.CF c) ∧ S.CF c < 40000 ∧ Z.cp c = nI (S.pc c) ∧ S.pc c < 500 ∧ Z.fc (S.pc c) = nI (S.FC (S.pc c)) ∧ S.FC (S.pc c) ≤ c := fun c hc => by
  obtain ⟨a1, a2, a3, a4, a5, a6, a7, a8⟩ := B.cc (B.1.namm hc)
  exact ⟨a1, a3, by omega, a5, a6, a7, a8⟩
theorem mrp.nmz {S : Stk} {Z : Mda} {G : Gr} {sf : Nat → Int32} {mw : Nat → Int64} (M : mrp S Z G) (I : sInv S) (F : fb sf mw S.P) (y : Nat) : ∀ x, x ∈ (namL S mw).filter (ofF S y) ↔ nmS sf (S.FC S.P) S.pc (kdS S) S.CF (ocS S) (nsS S) (oxZ Z) y (S.FC S.P) x := fun x => by
  rw [M.nam I F, List.mem_filter]
  refine and_congr Iff.rfl ?_
  unfold ofF
  rw [beq_iff_eq]
theorem sInv.lpz {S : Stk} (I : sInv S) : ∀ l, l < S.NLp S.P → S.lp l = nI (l - S.CL (lcS S l)) := fun l hl => by
  obtain ⟨g1, g2, g3, g4⟩ := I.lno hl
  have h := (I.lnf g1 g2 (show l - S.CL (lcS S l) < nLn S (lcS S l) by omega)).2.2.1
  rw [show S.CL (lcS S l) + (l - S.CL (lcS S l)) = l by omega] at h
  exact h
/-- ways in the class's rows and in the reference's graph -/
theorem mrp.pthW {S : Stk} {Z : Mda} {G : Gr} {sf : Nat → Int32} {mw : Nat → Int64} (M : mrp S Z G) (I : sInv S) (F : fb sf mw S.P) (C : clo S mw) {y : Nat} : ∀ a b, b < (rowL S mw y).length → (pth (edG S mw y) 0 (rowL S mw y).length a b ↔ pth (gEd sf (S.FC S.P) S.pc (kdS S) S.CF (lcS S) S.CL (nLn S) Z.on Z.tw y) 0 4000 ((rowL S mw y).getD a 0) ((rowL S mw y).getD b 0)) := fun a b hbl => by
  have hN := I.nlP
  have hrow : ∀ {x}, x ∈ rowL S mw y ↔ gIn sf (S.NLp S.P) S.pc S.CF (lcS S) y x := fun {x} => mrp.row I F
  rw [← pth_map (ML := rowL S mw y) (fun x hx => by have := (hrow.mp hx).1; omega) (fun l m ⟨c, c1, c2, c3⟩ => hrow.mpr ((M.edl I F C c c1 c2).inn (fun x hx => by have := hx.1; omega) c3).2) hbl]
  have e : ∀ k a b, b < (rowL S mw y).length → (ptN (edG S mw y) 0 (rowL S mw y).length k a b ↔ ptN (fun i j => gEd sf (S.FC S.P) S.pc (kdS S) S.CF (lcS S) S.CL (nLn S) Z.on Z.tw y ((rowL S mw y).getD i 0) ((rowL S mw y).getD j 0)) 0 (rowL S mw y).length k a b) := fun k => by
    induction k with
    | zero => intro a b hb; exact ⟨fun z => (M.edg I F).mp z.2, fun z => ⟨hb, (M.edg I F).mpr z⟩⟩
    | succ k ih =>
      intro a b hb
      constructor
      · rintro ⟨v, v1, v2, v3, v4⟩
        exact ⟨v, v1, v2, (M.edg I F).mp v3.2, (ih v b hb).mp v4⟩
      · rintro ⟨v, v1, v2, v3, v4⟩
        exact ⟨v, v1, v2, ⟨v2, (M.edg I F).mpr v3⟩, (ih v b hb).mpr v4⟩
  exact ⟨fun ⟨k, z⟩ => ⟨k, (e k a b hbl).mp z⟩, fun ⟨k, z⟩ => ⟨k, (e k a b hbl).mpr z⟩⟩
theorem rec_bf {S : Stk} {Zm : Mda} {G : Gr} {sf : Nat → Int32} {mw : Nat → Int64} (M : mrp S Zm G) (I : sInv S) (F : fb sf mw S.P) (C : clo S mw) {y : Nat} {PT LN : Nat → Nat} {rw9 sl od : Nat → Int32} {re : Nat → Int64} {to de st le si un : Value} {gou : Nat → Int32} (V : txQ S mw y PT LN rw9 sl od re to de st le si un gou) : ∀ p q, gIn sf (S.NLp S.P) S.pc S.CF (lcS S) y p → gIn sf (S.NLp S.P) S.pc S.CF (lcS S) y q → (rcB re sl p q = true ↔ pth (gEd sf (S.FC S.P) S.pc (kdS S) S.CF (lcS S) S.CL (nLn S) Zm.on Zm.tw y) 0 4000 p q) := fun p q hp hq => by
  obtain ⟨a, ha, ea⟩ := mem_getD ((mrp.row I F).mpr hp)
  obtain ⟨b, hb, eb⟩ := mem_getD ((mrp.row I F).mpr hq)
  have l4 := I.rowl mw y
  have ca := V.2.1 a ha
  have cb := V.2.1 b hb
  have w := M.pthW I F C (y := y) a b hb
  rw [ea] at ca w
  rw [eb] at cb w
  unfold rcB
  rw [ca, cb, nI_clamp (by omega), nI_clamp (by omega), V.2.2.1 a b ha (by omega)]
  exact w
theorem spW.le {tf : Nat → Int32} {tn nt j : Nat} {NA NZ : Nat → Nat} (h : spW tf tn NA NZ nt) (hj : j < nt) : NA j + NZ j ≤ 65536 := by
  have h1 := NA_mono h.2.2.1 (a := j + 1) (b := nt) (by omega) (by omega)
  have h2 := h.2.2.1 j hj
  have h3 := h.2.2.2
  omega
theorem rec_Eq {S : Stk} {Zc : StkA} {Zm : Mda} {G : Gr} {mw : Nat → Int64} {y tn nt : Nat} {tf : Nat → Int32} {NA NZ : Nat → Nat} {T : List Nat} (B : rlS S Zc) (M : mrp S Zm G) (hT : ∀ x, x ∈ T → x ∈ rowL S mw y) (hW : spW tf tn NA NZ nt) (ht : ∀ j, j < 65536 → by1 (tf j) = tf j) : ∀ i j, i < T.length → j < nt → (rcE S tf (tsS S) (taS S) NA NZ T i j = true ↔ (tsS S (T.getD i 0) = NZ j ∧ sq Zm.by₇ (taS S (T.getD i 0)) (NZ j) = sq tf (NA j) (NZ j))) := fun i j hi hj => by
  obtain ⟨c, q, hc, h2, hq, e, hl, _⟩ := B.1.rowm (hT _ (getD_mem hi))
  obtain ⟨l1, _, l3, l4, l5⟩ := B.1.lnt hl
  have hF := B.1.frP
  have hw := hW.le hj
  rw [rcE_iff]
  refine and_congr_right (fun en => ?_)
  rw [en]
  rw [en] at l5
  constructor
  · intro z
    exact sq_congr (NZ j) _ _ (fun k hk => by rw [M.1 _ (by omega)]; exact z k hk)
  · intro z k hk
    have w := sq_eq (NZ j) _ _ z k hk
    rw [M.1 _ (by omega)] at w
    exact b8_inj (B.2.2.1 _ (by omega)) (ht _ (by omega)) w
/-- what a record names are patches -/
theorem txQ.mem {S : Stk} {mw : Nat → Int64} {y n : Nat} {re : Nat → Int64} {gou : Nat → Int32} : ∀ x, x ∈ asL (rowL S mw y) (gL re (rowL S mw y).length n gou) → x ∈ rowL S mw y := fun _ z => asL_mem z
def inrA (P : Nat → Prop) (F : List (List Int32 ⊕ Nat)) : Prop := ∀ c, Sum.inr c ∈ F → P c
theorem inrA_nil {P : Nat → Prop} : inrA P [] := fun c z => by cases z
theorem inrA_app {P : Nat → Prop} {A B : List (List Int32 ⊕ Nat)} (h1 : inrA P A) (h2 : inrA P B) : inrA P (A ++ B) := fun c z => (List.mem_append.mp z).elim (h1 c) (h2 c)
theorem inrA_cl {P : Nat → Prop} {L : List Int32} {F : List (List Int32 ⊕ Nat)} (h2 : inrA P F) : inrA P (.inl L :: F) := fun c z => (List.mem_cons.mp z).elim (fun e => by cases e) (h2 c)
theorem inrA_cr {P : Nat → Prop} {d : Nat} {F : List (List Int32 ⊕ Nat)} (h1 : P d) (h2 : inrA P F) : inrA P (.inr d :: F) := fun c z => (List.mem_cons.mp z).elim (fun e => by rw [Sum.inr.inj e]; exact h1) (h2 c)
theorem inrA_lnK {P : Nat → Prop} {S : Stk} {LC : Nat → Nat} {x : Nat} (h : P (LC x)) : inrA P (lnK S LC x) := inrA_cr h (inrA_cl inrA_nil)
theorem inrA_plK {P : Nat → Prop} {S : Stk} {LC : Nat → Nat} : ∀ {o : Option Nat}, (∀ x, o = some x → P (LC x)) → inrA P (plK S LC o)
  | none, _ => inrA_cl inrA_nil
  | some x, h => inrA_cl (inrA_lnK (h x rfl))
theorem inrA_flat {P : Nat → Prop} {C : List (List (List Int32 ⊕ Nat))} (h : ∀ F, F ∈ C → inrA P F) : inrA P C.flatten := fun c z => by
  obtain ⟨F, h1, h2⟩ := List.mem_flatten.mp z
  exact h F h1 c h2
theorem inrA_inC {P : Nat → Prop} {S : Stk} {LC : Nat → Nat} {tf : Nat → Int32} {NA NL : Nat → Nat} {ac nt : Nat} {KX KN : List Nat} (ha : P ac) (hk : ∀ x, x ∈ KX → P (LC x)) : ∀ g, g ≤ KX.length + 1 → ∀ F, F ∈ inC S LC tf NA NL ac KX KN nt g → inrA P F
  | 0, _, F, z => by cases z
  | g + 1, hg, F, z => by
    have z : F ∈ inC S LC tf NA NL ac KX KN nt g ++ (if gpF KN g < gpE KN nt g then [inK S LC tf NA NL ac (gpU KX g) (gpD KX g) (gpF KN g) (gpE KN nt g)] else []) := z
    rcases List.mem_append.mp z with y | y
    · exact inrA_inC ha hk g (by omega) F y
    · by_cases e : gpF KN g < gpE KN nt g
      · rw [if_pos e] at y
        rw [List.mem_singleton.mp y]
        refine inrA_cl (inrA_cr ha (inrA_app (inrA_plK (fun x hx => ?_)) (inrA_app (inrA_plK (fun x hx => ?_)) (inrA_cl (inrA_cl inrA_nil)))))
        · unfold gpU at hx
          by_cases e0 : g = 0
          · rw [if_pos e0] at hx; cases hx
          · rw [if_neg e0] at hx
            rw [← Option.some.inj hx]
            exact hk _ (getD_mem (by omega))
        · unfold gpD at hx
          by_cases e0 : g = KX.length
          · rw [if_pos e0] at hx; cases hx
          · rw [if_neg e0] at hx
            rw [← Option.some.inj hx]
            exact hk _ (getD_mem (by omega))
      · rw [if_neg e] at y; cases y
theorem inrA_odC {P : Nat → Prop} {S : Stk} {LC : Nat → Nat} {bf : Nat → Nat → Bool} {KX KN : List Nat} (hk : ∀ x, x ∈ KX → P (LC x)) : ∀ g, g ≤ KX.length - 1 → ∀ F, F ∈ odC S LC bf KX KN g → inrA P F
  | 0, _, F, z => by cases z
  | g + 1, hg, F, z => by
    have z : F ∈ odC S LC bf KX KN g ++ (if odB bf KX KN g = true then [odK S LC (KX.getD g 0) (KX.getD (g + 1) 0)] else []) := z
    rcases List.mem_append.mp z with y | y
    · exact inrA_odC hk g (by omega) F y
    · by_cases e : odB bf KX KN g = true
      · rw [if_pos e] at y
        rw [List.mem_singleton.mp y]
        exact inrA_cl (inrA_app (inrA_lnK (hk _ (getD_mem (by omega)))) (inrA_lnK (hk _ (getD_mem (by omega)))))
      · rw [if_neg e] at y; cases y
theorem tkC_mem {c : Nat} : ∀ {F : List (List Int32 ⊕ Nat)}, c ∈ tkC F → Sum.inr c ∈ F
  | [], z => by cases z
  | .inl L :: F, z => List.mem_cons_of_mem _ (tkC_mem (F := F) z)
  | .inr d :: F, z => by
    rcases List.mem_cons.mp (show c ∈ d :: tkC F from z) with y | y
    · rw [y]; exact List.mem_cons_self ..
    · exact List.mem_cons_of_mem _ (tkC_mem y)
theorem rcC_P {P : Nat → Prop} {S : Stk} {LC : Nat → Nat} {tf : Nat → Int32} {NA NL : Nat → Nat} {ac nt : Nat} {bf : Nat → Nat → Bool} {DX KX KN : List Nat} (ha : P ac) (hd : ∀ x, x ∈ DX → P (LC x)) (hk : ∀ x, x ∈ KX → P (LC x)) : ∀ c, c ∈ tkC (rcC S LC tf NA NL ac bf DX KX KN nt).flatten → P c := fun c z => by
  refine inrA_flat (fun F z => ?_) c (tkC_mem z)
  rcases List.mem_append.mp z with y | y
  · obtain ⟨x, hx, e⟩ := List.mem_map.mp y
    rw [← e]
    exact inrA_cl (inrA_lnK (hd x hx))
  · rcases List.mem_append.mp y with x | x
    · exact inrA_inC ha hk _ (Nat.le_refl _) F x
    · exact inrA_odC hk _ (Nat.le_refl _) F x
/-- bounds of what a record makes -/
theorem rec_b {S : Stk} {pl tf : Nat → Int32} {PC LC NA NZ : Nat → Nat} {ac tn nt no : Nat} {bf E : Nat → Nat → Bool} {T : List Nat} {RCs : List (List (List Int32 ⊕ Nat))} (hW : spW tf tn NA NZ nt) (hno : no ≤ 200) (hnt : nt ≤ 200) (hR : RCs = rcC S LC tf NA NZ ac bf ((wkD E no nt (no + nt)).map (fun i => T.getD i 0)) ((wkK E no nt (no + nt)).map (fun x => T.getD x.1 0)) ((wkK E no nt (no + nt)).map (fun x => x.2)) nt) : (chL S pl PC RCs).length ≤ 75000 ∧ RCs.length ≤ 601 := by
  have hwv := wkV_all E no nt (no + nt)
  have z1 := hwv.1
  have z2 := hwv.2.2.1
  unfold wkL wkM at z2
  have h := rcC_len S pl PC LC tf NA NZ ac bf ((wkD E no nt (no + nt)).map (fun i => T.getD i 0)) ((wkK E no nt (no + nt)).map (fun x => T.getD x.1 0)) ((wkK E no nt (no + nt)).map (fun x => x.2)) nt hW.2.2.1 (wk_gpO E no nt) (by rw [List.length_map, List.length_map])
  rw [← hR, List.length_map, List.length_map] at h
  have h3 := hW.2.2.2
  omega
/-- all that a record names lies in the stock -/
theorem rec_n {S : Stk} {Zm : Mda} {G : Gr} {sf tf : Nat → Int32} {mw : Nat → Int64} {NA NZ : Nat → Nat} {yf nt no : Nat} {bf E : Nat → Nat → Bool} {T : List Nat} {RCs : List (List (List Int32 ⊕ Nat))} (M : mrp S Zm G) (I : sInv S) (F : fb sf mw S.P) (hy : yf ∈ filL S mw) (hT : ∀ x, x ∈ T → x ∈ rowL S mw yf) (hno : no = T.length) (hR : RCs = rcC S (lcS S) tf NA NZ (fhS S yf) bf ((wkD E no nt (no + nt)).map (fun i => T.getD i 0)) ((wkK E no nt (no + nt)).map (fun x => T.getD x.1 0)) ((wkK E no nt (no + nt)).map (fun x => x.2)) nt) : ∀ c, c ∈ tkC RCs.flatten → S.pc c < S.P := fun c hc => by
  have hwv := wkV_all E no nt (no + nt)
  have z1 := hwv.1
  have hl : ∀ x, x ∈ T → S.pc (lcS S x) < S.P := fun x hx => by
    obtain ⟨d, q, hd, h2, hq, e, hl, _⟩ := I.rowm (hT x hx)
    exact (I.pcs (I.lno hl).1).1
  rw [hR] at hc
  refine rcC_P (P := fun c => S.pc c < S.P) ?_ (map_mem2 (OX := fun i => T.getD i 0) (P := fun x => S.pc (lcS S x) < S.P) (fun i hi => hl _ (getD_mem ?_))) (map_mem1 (OX := fun i => T.getD i 0) (P := fun x => S.pc (lcS S x) < S.P) (fun x hx => hl _ (getD_mem ?_))) c hc
  · exact (I.pcs (M.fh I yf ((M.fil I F).mpr hy).1).2.1).1
  · have := hwv.2.2.2.2.2.2 i hi
    omega
  · have := (hwv.2.2.2.2.2.1 x hx).1
    omega
theorem rec_hd {S : Stk} {Z : Mda} {G : Gr} (M : mrp S Z G) (I : sInv S) {hs nm pl : Nat → Int32} {PC : Nat → Nat} {C : List (List (List Int32 ⊕ Nat))} (R : ∀ i, i < S.P * 32 → hs i = S.hf i) : hdW S hs nm (nI C.length) ++ chL S pl PC C = (by2 (nI (ndL S nm S.P).length) ++ (hdM G.H (fun i => (ndL S nm S.P).getD i 0) (ndL S nm S.P).length ++ by2 (nI C.length))) ++ chL S pl PC C := by rw [M.hdE I R]
theorem ndL_500 {S : Stk} (I : sInv S) (nm : Nat → Int32) : (ndL S nm S.P).length ≤ 500 := by
  rw [ndL_len]
  have := cnt_le (nmb S nm) S.P
  have := I.hP
  omega
/-- bytes behind the stock, twice written -/
theorem wr2_lo {f : Nat → Int32} {a : Nat} {A B : List Int32} : ∀ i, i < a → f i = wrL (wrL f a A) a B i := fun i hi => by rw [wrL_lo hi, wrL_lo hi]
theorem wr2_by {f : Nat → Int32} {a : Nat} {A B : List Int32} (hf : ∀ j, j < 290000 → by1 (f j) = f j) (hA : byA A) (hB : byA B) : ∀ j, j < 290000 → by1 (wrL (wrL f a A) a B j) = wrL (wrL f a A) a B j := wrL_b9 (wrL_b9 hf hA) hB
theorem mrp.gridC {S : Stk} {Z : Mda} {G : Gr} (M : mrp S Z G) (E W C : Nat → Nat → Int32) : mrp S Z (((G.wE E).wW W).wC C) := M
theorem rlE.gridC {G : Gr} {ge gw gc : Nat → Option Nat} (h : rlE G ge gw gc) (E W C : Nat → Nat → Int32) : rlE (((G.wE E).wW W).wC C) ge gw gc := h

