/-! 99zzzyc.loop.lean.txt -/
set_option maxHeartbeats 8000000 in
set_option maxRecDepth 100000 in
theorem lx_loop {p : Program} {l : Launch} {e : Env} {s : State} {m : MethodId} {below : List Frame} {meth : Method} {c : Code} {b L : Nat} {xs : Nat → Int32} {dC : Nat → ClassId} {dI : Nat → Nat → Nat} {cI cB cL cZ cR cBB cZZ cII : ClassId} (C0 : lx_C p l s m meth c b L xs dC dI cI cB cL cZ cR cBB cZZ cII) (hL9 : L ≤ 3072) {h rp tp mk nmA plA it fo sk b_y fr fdA fcA dpA hs bh loA lbA ch cat cpA cfA flA adA ln laA llA lcA lpA luA ldA ofA naA lfA sh sm wd bl vw ovA vfA voA vnA tx trA tsA reA deA goA odA waA rc nwA nlA smA soA cmA kpA knA delA vhA vxA vsA o ymd ymdA ybyM yatM yleM ydaM yfcM ydsM ysrM yfoM ylcM ylaM yonM ytwM yflM ylhM ytaM ytsM yoaM yocM yovM ynsM yntM yofM yfhM yhsA yhM ydpM ynaM yctM ystA ydgO ysm ywd ybl ytp yndM yngM ylsM ylnM9 yltA yegA ywyA yplM ydeM ymbM yskM ylfM ybeM ytxM ynwM ynzM ycmA ykaM ykfM yinM9 ymkM ysoM yrsM : Nat} {rf gs gl ge gw gc : Nat → Option Nat} {RR MB DG SR LR : Nat → Nat} (hrf : ∀ k, k < 8 → rf k = some (RR k)) (hRR : ∀ a b, a < 8 → b < 8 → RR a = RR b → a = b) (hgs : ∀ k, k < 8 → gs k = some (SR k)) (hgl : ∀ k, k < 8 → gl k = some (LR k)) : ∀ (q9 n9 kc ks : Nat) (S : Stk) (Z : StkA) (Zm : Mda) (G : Gr) (tn : Nat) (flt : Int32) (tf : Nat → Int32) (mk_at mk_changes : Value) (nm pl : Nat → Int32) (vw_fileTotal vw_namingTotal : Value) (ld : Option Nat) (vv rd : Nat) (ov vf vo vn : Nat → Int32) (tx_length tx_size tx_unsure tx_stranded tx_dead : Value) (lt : Option Nat) (tv lf9 : Nat) (tx_total : Value) (rw9 sl : Nat → Int32) (re de : Nat → Int64) (go od wt : Nat → Int32) (rc_newTotal rc_oldTotal rc_file rc_deletedTotal rc_keptTotal : Value) (na nl sm9 so9 cm9 kp9 kn9 de9 hd nx sh9 : Nat → Int32) (ov9 : Nat → Int64) (yth : Value) (sp : Nat) (yin yps yst ywg ydc yow : Value) (yrf : Int32) (yfu ync : Value) (ymq ykk yU : Nat) (ywr ywf yws : Int32) (yms yne ynn : Value) (ymb yh0 ydp yna yct : Nat → Int32) (yfl ytl : Value) (ybk : Int32) (yf0 yw0 yb0 ynd yng yls ylc ypl yde ymm ysk ylf ybe ytx ynw ynz yka ykf yiw ymk yso yrs : Nat → Int32) (MW : Nat → Nat → Int64) (ZI : Nat → Int32) (RV : Nat → Nat) (DF : Nat → Nat → Int32) (DV : Nat → Int32) (SF LT : Nat → Nat → Int32) (H : Heap) (locs : List Loc) (ls : Array Slot), L < 6 * (n9 + q9) → 6 * n9 ≤ L → kc ≤ 2000 + 12 * n9 → ks ≤ 2150000 + 400 * n9 → (rlS S Z) → (rlT tf tn) → (mrp S Zm G) → (∀ k, k < 8 → rlK S (MW k) (ZI k) (SF k)) → (∀ k, k < 8 → rlG S Z (MW k) (DV k) (RV k) (DF k)) → (∀ k, k < 8 → rlL S (MW k) yls ylc (LT k) k sp) → (rlV S MW RR RV ld vv rd ov vf vo vn vw_fileTotal vw_namingTotal) → (rlX S MW RR RV lt tv lf9 rw9 sl od re tx_total tx_dead tx_stranded tx_length tx_size tx_unsure) → (rlW S G MW sp yws ywr ywf ypl yde ymm ytx yU ymq ykk) → (rlJ n9 RV vv rd tv sp) → (∀ j, j < 200000 → by1 (ymb j) = ymb j) → (rlE G ge gw gc) → lx_In dC dI s (lw_F cI cB cL cZ cR cBB cZZ cII h rp tp mk nmA plA it fo sk b_y fr fdA fcA dpA hs bh loA lbA ch cat cpA cfA flA adA ln laA llA lcA lpA luA ldA ofA naA lfA sh sm wd bl vw ovA vfA voA vnA tx trA tsA reA deA goA odA waA rc nwA nlA smA soA cmA kpA knA delA vhA vxA vsA o ymd ymdA ybyM yatM yleM ydaM yfcM ydsM ysrM yfoM ylcM ylaM yonM ytwM yflM ylhM ytaM ytsM yoaM yocM yovM ynsM yntM yofM yfhM yhsA yhM ydpM ynaM yctM ystA ydgO ysm ywd ybl ytp yndM yngM ylsM ylnM9 yltA yegA ywyA yplM ydeM ymbM yskM ylfM ybeM ytxM ynwM ynzM ycmA ykaM ykfM yinM9 ymkM ysoM yrsM rf gs gl ge gw gc RR MB DG SR LR S Z Zm G tn flt tf mk_at mk_changes nm pl vw_fileTotal vw_namingTotal ld vv rd ov vf vo vn tx_length tx_size tx_unsure tx_stranded tx_dead lt tv lf9 tx_total rw9 sl re de go od wt rc_newTotal rc_oldTotal rc_file rc_deletedTotal rc_keptTotal na nl sm9 so9 cm9 kp9 kn9 de9 hd nx sh9 ov9 yth sp yin yps yst ywg ydc yow yrf yfu ync ymq ykk yU ywr ywf yws yms yne ynn ymb yh0 ydp yna yct yfl ytl ybk yf0 yw0 yb0 ynd yng yls ylc ypl yde ymm ysk ylf ybe ytx ynw ynz yka ykf yiw ymk yso yrs MW ZI RV DF DV SF LT) H → va_S (lx_A s) s.heap H locs → lv_has ls 7 [(0, .ref b), (1, .ref h), (2, .ref ymd), (3, .ref o), (4, .int (nI (6 * n9)))] → W p l e room_1 s m #[Value.ref b] below meth c H locs (kc) (ks) (lw_Z below #[Value.ref b] s) (F0 m 23 ls []) := by
  obtain ⟨hx, hb, hr, hml, hown, hts, hX, hbl, hlocks, hK, hN, hTh, hNc, hlt⟩ := id C0
  have hA : ∀ q : Nat, s.heap.size ≤ q → lx_A s q := fun _ h => h
  have hbA : ¬ lx_A s b := Nat.not_le.mpr hbl
  intro q9
  induction q9 with
  | zero => intro n9 kc ks S Z Zm G tn flt tf mk_at mk_changes nm pl vw_fileTotal vw_namingTotal ld vv rd ov vf vo vn tx_length tx_size tx_unsure tx_stranded tx_dead lt tv lf9 tx_total rw9 sl re de go od wt rc_newTotal rc_oldTotal rc_file rc_deletedTotal rc_keptTotal na nl sm9 so9 cm9 kp9 kn9 de9 hd nx sh9 ov9 yth sp yin yps yst ywg ydc yow yrf yfu ync ymq ykk yU ywr ywf yws yms yne ynn ymb yh0 ydp yna yct yfl ytl ybk yf0 yw0 yb0 ynd yng yls ylc ypl yde ymm ysk ylf ybe ytx ynw ynz yka ykf yiw ymk yso yrs MW ZI RV DF DV SF LT H locs ls h1 h2; exact absurd h1 (by omega)
  | succ q9 ih =>
    intro n9 kc ks S Z Zm G tn flt tf mk_at mk_changes nm pl vw_fileTotal vw_namingTotal ld vv rd ov vf vo vn tx_length tx_size tx_unsure tx_stranded tx_dead lt tv lf9 tx_total rw9 sl re de go od wt rc_newTotal rc_oldTotal rc_file rc_deletedTotal rc_keptTotal na nl sm9 so9 cm9 kp9 kn9 de9 hd nx sh9 ov9 yth sp yin yps yst ywg ydc yow yrf yfu ync ymq ykk yU ywr ywf yws yms yne ynn ymb yh0 ydp yna yct yfl ytl ybk yf0 yw0 yb0 ynd yng yls ylc ypl yde ymm ysk ylf ybe ytx ynw ynz yka ykf yiw ymk yso yrs MW ZI RV DF DV SF LT H locs ls hq9 hnL hkc9 hks9 hRS hRT hRM hRK hRG hRL hRV hRX hRW hRN hRB hRE hPD hS hl
    by_cases hn6 : 6 * n9 + 6 ≤ L
    · have hK : ∀ (S₇ : Stk) (Z₇ : StkA) (Zm₇ : Mda) (G₇ : Gr) (tn₇ : Nat) (flt₇ : Int32) (tf₇ : Nat → Int32) (mk_at₇ mk_changes₇ : Value) (nm₇ pl₇ : Nat → Int32) (vw_fileTotal₇ vw_namingTotal₇ : Value) (ld₇ : Option Nat) (vv₇ rd₇ : Nat) (ov₇ vf₇ vo₇ vn₇ : Nat → Int32) (tx_length₇ tx_size₇ tx_unsure₇ tx_stranded₇ tx_dead₇ : Value) (lt₇ : Option Nat) (tv₇ lf9₇ : Nat) (tx_total₇ : Value) (rw9₇ sl₇ : Nat → Int32) (re₇ de₇ : Nat → Int64) (go₇ od₇ wt₇ : Nat → Int32) (rc_newTotal₇ rc_oldTotal₇ rc_file₇ rc_deletedTotal₇ rc_keptTotal₇ : Value) (na₇ nl₇ sm9₇ so9₇ cm9₇ kp9₇ kn9₇ de9₇ hd₇ nx₇ sh9₇ : Nat → Int32) (ov9₇ : Nat → Int64) (yth₇ : Value) (sp₇ : Nat) (yin₇ yps₇ yst₇ ywg₇ ydc₇ yow₇ : Value) (yrf₇ : Int32) (yfu₇ ync₇ : Value) (ymq₇ ykk₇ yU₇ : Nat) (ywr₇ ywf₇ yws₇ : Int32) (yms₇ yne₇ ynn₇ : Value) (ymb₇ yh0₇ ydp₇ yna₇ yct₇ : Nat → Int32) (yfl₇ ytl₇ : Value) (ybk₇ : Int32) (yf0₇ yw0₇ yb0₇ ynd₇ yng₇ yls₇ ylc₇ ypl₇ yde₇ ymm₇ ysk₇ ylf₇ ybe₇ ytx₇ ynw₇ ynz₇ yka₇ ykf₇ yiw₇ ymk₇ yso₇ yrs₇ : Nat → Int32) (MW₇ : Nat → Nat → Int64) (ZI₇ : Nat → Int32) (RV₇ : Nat → Nat) (DF₇ : Nat → Nat → Int32) (DV₇ : Nat → Int32) (SF₇ LT₇ : Nat → Nat → Int32), lx_K p l e s m below meth c b h ymd o n9 kc ks dC dI ((rlS S₇ Z₇) ∧ (rlT tf₇ tn₇) ∧ (mrp S₇ Zm₇ G₇) ∧ (∀ k, k < 8 → rlK S₇ (MW₇ k) (ZI₇ k) (SF₇ k)) ∧ (∀ k, k < 8 → rlG S₇ Z₇ (MW₇ k) (DV₇ k) (RV₇ k) (DF₇ k)) ∧ (∀ k, k < 8 → rlL S₇ (MW₇ k) yls₇ ylc₇ (LT₇ k) k sp₇) ∧ (rlV S₇ MW₇ RR RV₇ ld₇ vv₇ rd₇ ov₇ vf₇ vo₇ vn₇ vw_fileTotal₇ vw_namingTotal₇) ∧ (rlX S₇ MW₇ RR RV₇ lt₇ tv₇ lf9₇ rw9₇ sl₇ od₇ re₇ tx_total₇ tx_dead₇ tx_stranded₇ tx_length₇ tx_size₇ tx_unsure₇) ∧ (rlW S₇ G₇ MW₇ sp₇ yws₇ ywr₇ ywf₇ ypl₇ yde₇ ymm₇ ytx₇ yU₇ ymq₇ ykk₇) ∧ (rlJ (n9 + 1) RV₇ vv₇ rd₇ tv₇ sp₇) ∧ (∀ j, j < 200000 → by1 (ymb₇ j) = ymb₇ j) ∧ (rlE G₇ ge gw gc)) (lw_F cI cB cL cZ cR cBB cZZ cII h rp tp mk nmA plA it fo sk b_y fr fdA fcA dpA hs bh loA lbA ch cat cpA cfA flA adA ln laA llA lcA lpA luA ldA ofA naA lfA sh sm wd bl vw ovA vfA voA vnA tx trA tsA reA deA goA odA waA rc nwA nlA smA soA cmA kpA knA delA vhA vxA vsA o ymd ymdA ybyM yatM yleM ydaM yfcM ydsM ysrM yfoM ylcM ylaM yonM ytwM yflM ylhM ytaM ytsM yoaM yocM yovM ynsM yntM yofM yfhM yhsA yhM ydpM ynaM yctM ystA ydgO ysm ywd ybl ytp yndM yngM ylsM ylnM9 yltA yegA ywyA yplM ydeM ymbM yskM ylfM ybeM ytxM ynwM ynzM ycmA ykaM ykfM yinM9 ymkM ysoM yrsM rf gs gl ge gw gc RR MB DG SR LR (S₇) (Z₇) (Zm₇) (G₇) (tn₇) (flt₇) (tf₇) (mk_at₇) (mk_changes₇) (nm₇) (pl₇) (vw_fileTotal₇) (vw_namingTotal₇) (ld₇) (vv₇) (rd₇) (ov₇) (vf₇) (vo₇) (vn₇) (tx_length₇) (tx_size₇) (tx_unsure₇) (tx_stranded₇) (tx_dead₇) (lt₇) (tv₇) (lf9₇) (tx_total₇) (rw9₇) (sl₇) (re₇) (de₇) (go₇) (od₇) (wt₇) (rc_newTotal₇) (rc_oldTotal₇) (rc_file₇) (rc_deletedTotal₇) (rc_keptTotal₇) (na₇) (nl₇) (sm9₇) (so9₇) (cm9₇) (kp9₇) (kn9₇) (de9₇) (hd₇) (nx₇) (sh9₇) (ov9₇) (yth₇) (sp₇) (yin₇) (yps₇) (yst₇) (ywg₇) (ydc₇) (yow₇) (yrf₇) (yfu₇) (ync₇) (ymq₇) (ykk₇) (yU₇) (ywr₇) (ywf₇) (yws₇) (yms₇) (yne₇) (ynn₇) (ymb₇) (yh0₇) (ydp₇) (yna₇) (yct₇) (yfl₇) (ytl₇) (ybk₇) (yf0₇) (yw0₇) (yb0₇) (ynd₇) (yng₇) (yls₇) (ylc₇) (ypl₇) (yde₇) (ymm₇) (ysk₇) (ylf₇) (ybe₇) (ytx₇) (ynw₇) (ynz₇) (yka₇) (ykf₇) (yiw₇) (ymk₇) (yso₇) (yrs₇) (MW₇) (ZI₇) (RV₇) (DF₇) (DV₇) (SF₇) (LT₇)) := by
        intro S₇ Z₇ Zm₇ G₇ tn₇ flt₇ tf₇ mk_at₇ mk_changes₇ nm₇ pl₇ vw_fileTotal₇ vw_namingTotal₇ ld₇ vv₇ rd₇ ov₇ vf₇ vo₇ vn₇ tx_length₇ tx_size₇ tx_unsure₇ tx_stranded₇ tx_dead₇ lt₇ tv₇ lf9₇ tx_total₇ rw9₇ sl₇ re₇ de₇ go₇ od₇ wt₇ rc_newTotal₇ rc_oldTotal₇ rc_file₇ rc_deletedTotal₇ rc_keptTotal₇ na₇ nl₇ sm9₇ so9₇ cm9₇ kp9₇ kn9₇ de9₇ hd₇ nx₇ sh9₇ ov9₇ yth₇ sp₇ yin₇ yps₇ yst₇ ywg₇ ydc₇ yow₇ yrf₇ yfu₇ ync₇ ymq₇ ykk₇ yU₇ ywr₇ ywf₇ yws₇ yms₇ yne₇ ynn₇ ymb₇ yh0₇ ydp₇ yna₇ yct₇ yfl₇ ytl₇ ybk₇ yf0₇ yw0₇ yb0₇ ynd₇ yng₇ yls₇ ylc₇ ypl₇ yde₇ ymm₇ ysk₇ ylf₇ ybe₇ ytx₇ ynw₇ ynz₇ yka₇ ykf₇ yiw₇ ymk₇ yso₇ yrs₇ MW₇ ZI₇ RV₇ DF₇ DV₇ SF₇ LT₇ H' locs' ls' hRl hP hD hS hl
        obtain ⟨hRS, hRT, hRM, hRK, hRG, hRL, hRV, hRX, hRW, hRN, hRB, hRE⟩ := hRl
        refine lv_iinc (v := nI (6 * n9 + 6)) (lv' := [(4, .int (nI (6 * n9 + 6))), (0, .ref b), (1, .ref h), (2, .ref ymd), (3, .ref o)]) hx hb d_Lw_law_1338 hl (k := 4) rfl (by exact nI_add (6 * n9) 6) (by decide) rfl (fun ls hl => ?_)
        refine lv_goto (tgt := 23) hx hb d_Lw_law_1341 (by decide) ?_
        have hl : lv_has ls 7 [(0, .ref b), (1, .ref h), (2, .ref ymd), (3, .ref o), (4, .int (nI (6 * (n9 + 1))))] := by rw [show 6 * (n9 + 1) = 6 * n9 + 6 by omega]; exact lv_sub hl [1, 2, 3, 4, 0] rfl
        exact ih (n9 + 1) (kc + 12) (ks + 400) S₇ Z₇ Zm₇ G₇ tn₇ flt₇ tf₇ mk_at₇ mk_changes₇ nm₇ pl₇ vw_fileTotal₇ vw_namingTotal₇ ld₇ vv₇ rd₇ ov₇ vf₇ vo₇ vn₇ tx_length₇ tx_size₇ tx_unsure₇ tx_stranded₇ tx_dead₇ lt₇ tv₇ lf9₇ tx_total₇ rw9₇ sl₇ re₇ de₇ go₇ od₇ wt₇ rc_newTotal₇ rc_oldTotal₇ rc_file₇ rc_deletedTotal₇ rc_keptTotal₇ na₇ nl₇ sm9₇ so9₇ cm9₇ kp9₇ kn9₇ de9₇ hd₇ nx₇ sh9₇ ov9₇ yth₇ sp₇ yin₇ yps₇ yst₇ ywg₇ ydc₇ yow₇ yrf₇ yfu₇ ync₇ ymq₇ ykk₇ yU₇ ywr₇ ywf₇ yws₇ yms₇ yne₇ ynn₇ ymb₇ yh0₇ ydp₇ yna₇ yct₇ yfl₇ ytl₇ ybk₇ yf0₇ yw0₇ yb0₇ ynd₇ yng₇ yls₇ ylc₇ ypl₇ yde₇ ymm₇ ysk₇ ylf₇ ybe₇ ytx₇ ynw₇ ynz₇ yka₇ ykf₇ yiw₇ ymk₇ yso₇ yrs₇ MW₇ ZI₇ RV₇ DF₇ DV₇ SF₇ LT₇ _ _ _ (by omega) (by omega) (by omega) (by omega) hRS hRT hRM hRK hRG hRL hRV hRX hRW hRN hRB hRE ⟨hP, hD⟩ hS hl
      have hkc6 : kc + 12 ≤ 61024 := by omega
      have hks6 : ks + 400 ≤ 8913034 := by omega
      refine lv_iload hx hb d_Lw_law_23 (lv_at hl 4 rfl) ?_
      refine lv_aload_n hx hb d_Lw_law_25 rfl (lv_at hl 0 rfl) ?_
      refine va_slen hx hb hX hbl hbA hS d_Lw_law_26 ?_
      refine lv_bipush (v := 6) hx hb d_Lw_law_27 (by decide) ?_
      refine lv_isub hx hb d_Lw_law_29 ?_
      refine lv_icmp_gt (tgt := 1344) hx hb d_Lw_law_30 (by decide) (fun c_30 => absurd c_30 (fun z => (lx_gt hL9 hnL).mp z hn6)) (fun _ => ?_)
      refine lv_aload_n hx hb d_Lw_law_33 rfl (lv_at hl 0 rfl) ?_
      refine lv_iload hx hb d_Lw_law_34 (lv_at hl 4 rfl) ?_
      refine va_sld hx hb hX hbl hbA hS (i := nI (6 * n9)) (vp_in_nI (by omega) (by omega)) d_Lw_law_36 ?_
      rw [show (nI (6 * n9)).toNatClampNeg = (6 * n9) from nI_clamp (by omega)]
      refine lv_bipush (v := 31) hx hb d_Lw_law_37 (by decide) ?_
      refine lv_iand hx hb d_Lw_law_39 ?_
      rcases pk_ix ((xs ((6 * n9))) &&& 31) (n := 18) (by decide) with hs | hs | ⟨j_40, hj, hje⟩
      · refine lv_tableOut (tgt := 1338) hx hb d_Lw_law_40 (Or.inl (by have := Int32.lt_iff_toInt_lt.mp hs; simpa using this)) (by decide) ?_
        have hl5 : lv_has ls 7 [(0, .ref b), (1, .ref h), (2, .ref ymd), (3, .ref o), (4, .int (nI (6 * n9)))] := lv_sub hl [0, 1, 2, 3, 4] rfl
        refine W.widen (k := kc + 12) (n := ks + 400) (by omega) (by omega) ?_
        exact lx_K.go (hK S Z Zm G tn flt tf mk_at mk_changes nm pl vw_fileTotal vw_namingTotal ld vv rd ov vf vo vn tx_length tx_size tx_unsure tx_stranded tx_dead lt tv lf9 tx_total rw9 sl re de go od wt rc_newTotal rc_oldTotal rc_file rc_deletedTotal rc_keptTotal na nl sm9 so9 cm9 kp9 kn9 de9 hd nx sh9 ov9 yth sp yin yps yst ywg ydc yow yrf yfu ync ymq ykk yU ywr ywf yws yms yne ynn ymb yh0 ydp yna yct yfl ytl ybk yf0 yw0 yb0 ynd yng yls ylc ypl yde ymm ysk ylf ybe ytx ynw ynz yka ykf yiw ymk yso yrs MW ZI RV DF DV SF LT) ⟨hRS, hRT, hRM, hRK, hRG, hRL, hRV, hRX, hRW, hRN.mono (Nat.le_succ _), hRB, hRE⟩ hPD.1 hPD.2 hS hl5
      · refine lv_tableOut (tgt := 1338) hx hb d_Lw_law_40 (Or.inr (by have h9 := Int32.le_iff_toInt_le.mp hs; rw [nI_toInt (by decide)] at h9; omega)) (by decide) ?_
        have hl5 : lv_has ls 7 [(0, .ref b), (1, .ref h), (2, .ref ymd), (3, .ref o), (4, .int (nI (6 * n9)))] := lv_sub hl [0, 1, 2, 3, 4] rfl
        refine W.widen (k := kc + 12) (n := ks + 400) (by omega) (by omega) ?_
        exact lx_K.go (hK S Z Zm G tn flt tf mk_at mk_changes nm pl vw_fileTotal vw_namingTotal ld vv rd ov vf vo vn tx_length tx_size tx_unsure tx_stranded tx_dead lt tv lf9 tx_total rw9 sl re de go od wt rc_newTotal rc_oldTotal rc_file rc_deletedTotal rc_keptTotal na nl sm9 so9 cm9 kp9 kn9 de9 hd nx sh9 ov9 yth sp yin yps yst ywg ydc yow yrf yfu ync ymq ykk yU ywr ywf yws yms yne ynn ymb yh0 ydp yna yct yfl ytl ybk yf0 yw0 yb0 ynd yng yls ylc ypl yde ymm ysk ylf ybe ytx ynw ynz yka ykf yiw ymk yso yrs MW ZI RV DF DV SF LT) ⟨hRS, hRT, hRM, hRK, hRG, hRL, hRV, hRX, hRW, hRN.mono (Nat.le_succ _), hRB, hRE⟩ hPD.1 hPD.2 hS hl5
      · rcases (show j_40 = 0 ∨ j_40 = 1 ∨ j_40 = 2 ∨ j_40 = 3 ∨ j_40 = 4 ∨ j_40 = 5 ∨ j_40 = 6 ∨ j_40 = 7 ∨ j_40 = 8 ∨ j_40 = 9 ∨ j_40 = 10 ∨ j_40 = 11 ∨ j_40 = 12 ∨ j_40 = 13 ∨ j_40 = 14 ∨ j_40 = 15 ∨ j_40 = 16 ∨ j_40 = 17 by omega) with rfl | rfl | rfl | rfl | rfl | rfl | rfl | rfl | rfl | rfl | rfl | rfl | rfl | rfl | rfl | rfl | rfl | rfl
        · rw [hje]
          refine lv_tableIn (tgt := 128) (off := 88) hx hb d_Lw_law_40 (by decide) (by decide) (by decide) (by decide) ?_
          have hl5 : lv_has ls 7 [(0, .ref b), (1, .ref h), (2, .ref ymd), (3, .ref o), (4, .int (nI (6 * n9)))] := lv_sub hl [0, 1, 2, 3, 4] rfl
          exact lb_feed C0 hrf hRR hgs hgl hRS hRT hRM hRK hRG hRL hRV hRX hRW hRN hRB hRE  hn6 hL9 hkc6 hks6 hPD hS hl5 hK
        · rw [hje]
          refine lv_tableIn (tgt := 232) (off := 192) hx hb d_Lw_law_40 (by decide) (by decide) (by decide) (by decide) ?_
          have hl5 : lv_has ls 7 [(0, .ref b), (1, .ref h), (2, .ref ymd), (3, .ref o), (4, .int (nI (6 * n9)))] := lv_sub hl [0, 1, 2, 3, 4] rfl
          exact lb_end C0 hrf hRR hgs hgl hRS hRT hRM hRK hRG hRL hRV hRX hRW hRN hRB hRE  hn6 hL9 hkc6 hks6 hPD hS hl5 hK
        · rw [hje]
          refine lv_tableIn (tgt := 288) (off := 248) hx hb d_Lw_law_40 (by decide) (by decide) (by decide) (by decide) ?_
          have hl5 : lv_has ls 7 [(0, .ref b), (1, .ref h), (2, .ref ymd), (3, .ref o), (4, .int (nI (6 * n9)))] := lv_sub hl [0, 1, 2, 3, 4] rfl
          by_cases hbad : ∃ n : Nat, n < 8 ∧ xs (6 * n9 + 1) = nI n
          · obtain ⟨r9, hr9, hx1⟩ := hbad
            exact lb_add C0 hr9 hx1 hrf hRR hgs hgl hRS hRT hRM hRK hRG hRL hRV hRX hRW hRN hRB hRE  hn6 hL9 hkc6 hks6 hPD hS hl5 hK
          · exact lb_addX C0 hrf hRR hgs hgl hRS hRT hRM hRK hRG hRL hRV hRX hRW hRN hRB hRE hbad hn6 hL9 hkc6 hks6 hPD hS hl5 hK
        · rw [hje]
          refine lv_tableIn (tgt := 356) (off := 316) hx hb d_Lw_law_40 (by decide) (by decide) (by decide) (by decide) ?_
          have hl5 : lv_has ls 7 [(0, .ref b), (1, .ref h), (2, .ref ymd), (3, .ref o), (4, .int (nI (6 * n9)))] := lv_sub hl [0, 1, 2, 3, 4] rfl
          by_cases hbad : ∃ n : Nat, n < 8 ∧ xs (6 * n9 + 1) = nI n
          · obtain ⟨r9, hr9, hx1⟩ := hbad
            exact lb_call C0 hr9 hx1 hrf hRR hgs hgl hRS hRT hRM hRK hRG hRL hRV hRX hRW hRN hRB hRE  hn6 hL9 hkc6 hks6 hPD hS hl5 hK
          · exact lb_callX C0 hrf hRR hgs hgl hRS hRT hRM hRK hRG hRL hRV hRX hRW hRN hRB hRE hbad hn6 hL9 hkc6 hks6 hPD hS hl5 hK
        · rw [hje]
          refine lv_tableIn (tgt := 424) (off := 384) hx hb d_Lw_law_40 (by decide) (by decide) (by decide) (by decide) ?_
          have hl5 : lv_has ls 7 [(0, .ref b), (1, .ref h), (2, .ref ymd), (3, .ref o), (4, .int (nI (6 * n9)))] := lv_sub hl [0, 1, 2, 3, 4] rfl
          by_cases hbad : ∃ n : Nat, n < 8 ∧ xs (6 * n9 + 1) = nI n
          · obtain ⟨r9, hr9, hx1⟩ := hbad
            exact lb_record C0 hr9 hx1 hrf hRR hgs hgl hRS hRT hRM hRK hRG hRL hRV hRX hRW hRN hRB hRE  hn6 hL9 hkc6 hks6 hPD hS hl5 hK
          · exact lb_recordX C0 hrf hRR hgs hgl hRS hRT hRM hRK hRG hRL hRV hRX hRW hRN hRB hRE hbad hn6 hL9 hkc6 hks6 hPD hS hl5 hK
        · rw [hje]
          refine lv_tableIn (tgt := 492) (off := 452) hx hb d_Lw_law_40 (by decide) (by decide) (by decide) (by decide) ?_
          have hl5 : lv_has ls 7 [(0, .ref b), (1, .ref h), (2, .ref ymd), (3, .ref o), (4, .int (nI (6 * n9)))] := lv_sub hl [0, 1, 2, 3, 4] rfl
          by_cases hbad : ∃ n : Nat, n < 8 ∧ xs (6 * n9 + 1) = nI n
          · obtain ⟨r9, hr9, hx1⟩ := hbad
            exact lb_read C0 hr9 hx1 hrf hRR hgs hgl hRS hRT hRM hRK hRG hRL hRV hRX hRW hRN hRB hRE  hn6 hL9 hkc6 hks6 hPD hS hl5 hK
          · exact lb_readX C0 hrf hRR hgs hgl hRS hRT hRM hRK hRG hRL hRV hRX hRW hRN hRB hRE hbad hn6 hL9 hkc6 hks6 hPD hS hl5 hK
        · rw [hje]
          refine lv_tableIn (tgt := 548) (off := 508) hx hb d_Lw_law_40 (by decide) (by decide) (by decide) (by decide) ?_
          have hl5 : lv_has ls 7 [(0, .ref b), (1, .ref h), (2, .ref ymd), (3, .ref o), (4, .int (nI (6 * n9)))] := lv_sub hl [0, 1, 2, 3, 4] rfl
          exact lb_fault C0 hrf hRR hgs hgl hRS hRT hRM hRK hRG hRL hRV hRX hRW hRN hRB hRE  hn6 hL9 hkc6 hks6 hPD hS hl5 hK
        · rw [hje]
          refine lv_tableIn (tgt := 561) (off := 521) hx hb d_Lw_law_40 (by decide) (by decide) (by decide) (by decide) ?_
          have hl5 : lv_has ls 7 [(0, .ref b), (1, .ref h), (2, .ref ymd), (3, .ref o), (4, .int (nI (6 * n9)))] := lv_sub hl [0, 1, 2, 3, 4] rfl
          exact lb_show C0 hrf hRR hgs hgl hRS hRT hRM hRK hRG hRL hRV hRX hRW hRN hRB hRE  hn6 hL9 hkc6 hks6 hPD hS hl5 hK
        · rw [hje]
          refine lv_tableIn (tgt := 617) (off := 577) hx hb d_Lw_law_40 (by decide) (by decide) (by decide) (by decide) ?_
          have hl5 : lv_has ls 7 [(0, .ref b), (1, .ref h), (2, .ref ymd), (3, .ref o), (4, .int (nI (6 * n9)))] := lv_sub hl [0, 1, 2, 3, 4] rfl
          by_cases hbad : (∃ n : Nat, n < 8 ∧ xs (6 * n9 + 1) = nI n) ∧ ∃ n : Nat, n < 8 ∧ xs (6 * n9 + 2) = nI n
          · obtain ⟨⟨r9, hr9, hx1⟩, ⟨f9, hf9, hx2⟩⟩ := hbad
            by_cases hneg : xs (6 * n9 + 3) < 0
            · by_cases hne9 : f9 = r9
              · exact lb_pullNs C0 hr9 hx1 hrf hRR hgs hgl hRS hRT hRM hRK hRG hRL hRV hRX hRW hRN hRB hRE (by rw [← hne9]; exact hx2) hneg hn6 hL9 hkc6 hks6 hPD hS hl5 hK
              · exact lb_pullN C0 hr9 hx1 hf9 hne9 hx2 hrf hRR hgs hgl hRS hRT hRM hRK hRG hRL hRV hRX hRW hRN hRB hRE hneg hn6 hL9 hkc6 hks6 hPD hS hl5 hK
            · by_cases hne9 : f9 = r9
              · exact lb_pullPs C0 hr9 hx1 hrf hRR hgs hgl hRS hRT hRM hRK hRG hRL hRV hRX hRW hRN hRB hRE (by rw [← hne9]; exact hx2) hneg hn6 hL9 hkc6 hks6 hPD hS hl5 hK
              · exact lb_pullP C0 hr9 hx1 hf9 hne9 hx2 hrf hRR hgs hgl hRS hRT hRM hRK hRG hRL hRV hRX hRW hRN hRB hRE hneg hn6 hL9 hkc6 hks6 hPD hS hl5 hK
          · exact lb_pullZ C0 hrf hRR hgs hgl hRS hRT hRM hRK hRG hRL hRV hRX hRW hRN hRB hRE hbad hn6 hL9 hkc6 hks6 hPD hS hl5 hK
        · rw [hje]
          refine lv_tableIn (tgt := 697) (off := 657) hx hb d_Lw_law_40 (by decide) (by decide) (by decide) (by decide) ?_
          have hl5 : lv_has ls 7 [(0, .ref b), (1, .ref h), (2, .ref ymd), (3, .ref o), (4, .int (nI (6 * n9)))] := lv_sub hl [0, 1, 2, 3, 4] rfl
          by_cases hbad : ∃ n : Nat, n < 8 ∧ xs (6 * n9 + 1) = nI n
          · obtain ⟨r9, hr9, hx1⟩ := hbad
            exact lb_drop C0 hr9 hx1 hrf hRR hgs hgl hRS hRT hRM hRK hRG hRL hRV hRX hRW hRN hRB hRE  hn6 hL9 hkc6 hks6 hPD hS hl5 hK
          · exact lb_dropX C0 hrf hRR hgs hgl hRS hRT hRM hRK hRG hRL hRV hRX hRW hRN hRB hRE hbad hn6 hL9 hkc6 hks6 hPD hS hl5 hK
        · rw [hje]
          refine lv_tableIn (tgt := 765) (off := 725) hx hb d_Lw_law_40 (by decide) (by decide) (by decide) (by decide) ?_
          have hl5 : lv_has ls 7 [(0, .ref b), (1, .ref h), (2, .ref ymd), (3, .ref o), (4, .int (nI (6 * n9)))] := lv_sub hl [0, 1, 2, 3, 4] rfl
          by_cases hbad : ∃ n : Nat, n < 8 ∧ xs (6 * n9 + 1) = nI n
          · obtain ⟨r9, hr9, hx1⟩ := hbad
            exact lb_has C0 hr9 hx1 hrf hRR hgs hgl hRS hRT hRM hRK hRG hRL hRV hRX hRW hRN hRB hRE  hn6 hL9 hkc6 hks6 hPD hS hl5 hK
          · exact lb_hasX C0 hrf hRR hgs hgl hRS hRT hRM hRK hRG hRL hRV hRX hRW hRN hRB hRE hbad hn6 hL9 hkc6 hks6 hPD hS hl5 hK
        · rw [hje]
          refine lv_tableIn (tgt := 845) (off := 805) hx hb d_Lw_law_40 (by decide) (by decide) (by decide) (by decide) ?_
          have hl5 : lv_has ls 7 [(0, .ref b), (1, .ref h), (2, .ref ymd), (3, .ref o), (4, .int (nI (6 * n9)))] := lv_sub hl [0, 1, 2, 3, 4] rfl
          exact lb_hash C0 hrf hRR hgs hgl hRS hRT hRM hRK hRG hRL hRV hRX hRW hRN hRB hRE  hn6 hL9 hkc6 hks6 hPD hS hl5 hK
        · rw [hje]
          refine lv_tableIn (tgt := 913) (off := 873) hx hb d_Lw_law_40 (by decide) (by decide) (by decide) (by decide) ?_
          have hl5 : lv_has ls 7 [(0, .ref b), (1, .ref h), (2, .ref ymd), (3, .ref o), (4, .int (nI (6 * n9)))] := lv_sub hl [0, 1, 2, 3, 4] rfl
          by_cases hbad : ∃ n : Nat, n < 8 ∧ xs (6 * n9 + 1) = nI n
          · obtain ⟨r9, hr9, hx1⟩ := hbad
            exact lb_state C0 hr9 hx1 hrf hRR hgs hgl hRS hRT hRM hRK hRG hRL hRV hRX hRW hRN hRB hRE  hn6 hL9 hkc6 hks6 hPD hS hl5 hK
          · exact lb_stateX C0 hrf hRR hgs hgl hRS hRT hRM hRK hRG hRL hRV hRX hRW hRN hRB hRE hbad hn6 hL9 hkc6 hks6 hPD hS hl5 hK
        · rw [hje]
          refine lv_tableIn (tgt := 981) (off := 941) hx hb d_Lw_law_40 (by decide) (by decide) (by decide) (by decide) ?_
          have hl5 : lv_has ls 7 [(0, .ref b), (1, .ref h), (2, .ref ymd), (3, .ref o), (4, .int (nI (6 * n9)))] := lv_sub hl [0, 1, 2, 3, 4] rfl
          by_cases hbad : ∃ n : Nat, n < 8 ∧ xs (6 * n9 + 1) = nI n
          · obtain ⟨r9, hr9, hx1⟩ := hbad
            exact lb_about C0 hr9 hx1 hrf hRR hgs hgl hRS hRT hRM hRK hRG hRL hRV hRX hRW hRN hRB hRE  hn6 hL9 hkc6 hks6 hPD hS hl5 hK
          · exact lb_aboutX C0 hrf hRR hgs hgl hRS hRT hRM hRK hRG hRL hRV hRX hRW hRN hRB hRE hbad hn6 hL9 hkc6 hks6 hPD hS hl5 hK
        · rw [hje]
          refine lv_tableIn (tgt := 1049) (off := 1009) hx hb d_Lw_law_40 (by decide) (by decide) (by decide) (by decide) ?_
          have hl5 : lv_has ls 7 [(0, .ref b), (1, .ref h), (2, .ref ymd), (3, .ref o), (4, .int (nI (6 * n9)))] := lv_sub hl [0, 1, 2, 3, 4] rfl
          by_cases hbad : ∃ n : Nat, n < 8 ∧ xs (6 * n9 + 1) = nI n
          · obtain ⟨r9, hr9, hx1⟩ := hbad
            by_cases hbw : ∃ n : Nat, n < 7 ∧ xs (6 * n9 + 3) = nI n
            · obtain ⟨w9, hw9, hx3⟩ := hbw
              rcases (show w9 = 0 ∨ w9 = 1 ∨ w9 = 2 ∨ w9 = 3 ∨ w9 = 4 ∨ w9 = 5 ∨ w9 = 6 by omega) with rfl | rfl | rfl | rfl | rfl | rfl | rfl
              · exact lb_file0 C0 hr9 hx1 hrf hRR hgs hgl hRS hRT hRM hRK hRG hRL hRV hRX hRW hRN hRB hRE (hx3.trans (by decide)) hn6 hL9 hkc6 hks6 hPD hS hl5 hK
              · exact lb_file1 C0 hr9 hx1 hrf hRR hgs hgl hRS hRT hRM hRK hRG hRL hRV hRX hRW hRN hRB hRE (hx3.trans (by decide)) hn6 hL9 hkc6 hks6 hPD hS hl5 hK
              · exact lb_file2 C0 hr9 hx1 hrf hRR hgs hgl hRS hRT hRM hRK hRG hRL hRV hRX hRW hRN hRB hRE (hx3.trans (by decide)) hn6 hL9 hkc6 hks6 hPD hS hl5 hK
              · exact lb_file3 C0 hr9 hx1 hrf hRR hgs hgl hRS hRT hRM hRK hRG hRL hRV hRX hRW hRN hRB hRE (hx3.trans (by decide)) hn6 hL9 hkc6 hks6 hPD hS hl5 hK
              · exact lb_file4 C0 hr9 hx1 hrf hRR hgs hgl hRS hRT hRM hRK hRG hRL hRV hRX hRW hRN hRB hRE (hx3.trans (by decide)) hn6 hL9 hkc6 hks6 hPD hS hl5 hK
              · exact lb_file5 C0 hr9 hx1 hrf hRR hgs hgl hRS hRT hRM hRK hRG hRL hRV hRX hRW hRN hRB hRE (hx3.trans (by decide)) hn6 hL9 hkc6 hks6 hPD hS hl5 hK
              · exact lb_file6 C0 hr9 hx1 hrf hRR hgs hgl hRS hRT hRM hRK hRG hRL hRV hRX hRW hRN hRB hRE (hx3.trans (by decide)) hn6 hL9 hkc6 hks6 hPD hS hl5 hK
            · exact lb_fileW C0 hr9 hx1 hrf hRR hgs hgl hRS hRT hRM hRK hRG hRL hRV hRX hRW hRN hRB hRE hbw hn6 hL9 hkc6 hks6 hPD hS hl5 hK
          · exact lb_fileX C0 hrf hRR hgs hgl hRS hRT hRM hRK hRG hRL hRV hRX hRW hRN hRB hRE hbad hn6 hL9 hkc6 hks6 hPD hS hl5 hK
        · rw [hje]
          refine lv_tableIn (tgt := 1129) (off := 1089) hx hb d_Lw_law_40 (by decide) (by decide) (by decide) (by decide) ?_
          have hl5 : lv_has ls 7 [(0, .ref b), (1, .ref h), (2, .ref ymd), (3, .ref o), (4, .int (nI (6 * n9)))] := lv_sub hl [0, 1, 2, 3, 4] rfl
          by_cases hbad : ∃ n : Nat, n < 8 ∧ xs (6 * n9 + 1) = nI n
          · obtain ⟨r9, hr9, hx1⟩ := hbad
            exact lb_name C0 hr9 hx1 hrf hRR hgs hgl hRS hRT hRM hRK hRG hRL hRV hRX hRW hRN hRB hRE  hn6 hL9 hkc6 hks6 hPD hS hl5 hK
          · exact lb_nameX C0 hrf hRR hgs hgl hRS hRT hRM hRK hRG hRL hRV hRX hRW hRN hRB hRE hbad hn6 hL9 hkc6 hks6 hPD hS hl5 hK
        · rw [hje]
          refine lv_tableIn (tgt := 1221) (off := 1181) hx hb d_Lw_law_40 (by decide) (by decide) (by decide) (by decide) ?_
          have hl5 : lv_has ls 7 [(0, .ref b), (1, .ref h), (2, .ref ymd), (3, .ref o), (4, .int (nI (6 * n9)))] := lv_sub hl [0, 1, 2, 3, 4] rfl
          by_cases hbad : ∃ n : Nat, n < 8 ∧ xs (6 * n9 + 1) = nI n
          · obtain ⟨r9, hr9, hx1⟩ := hbad
            exact lb_line C0 hr9 hx1 hrf hRR hgs hgl hRS hRT hRM hRK hRG hRL hRV hRX hRW hRN hRB hRE  hn6 hL9 hkc6 hks6 hPD hS hl5 hK
          · exact lb_lineX C0 hrf hRR hgs hgl hRS hRT hRM hRK hRG hRL hRV hRX hRW hRN hRB hRE hbad hn6 hL9 hkc6 hks6 hPD hS hl5 hK
        · rw [hje]
          refine lv_tableIn (tgt := 1313) (off := 1273) hx hb d_Lw_law_40 (by decide) (by decide) (by decide) (by decide) ?_
          have hl5 : lv_has ls 7 [(0, .ref b), (1, .ref h), (2, .ref ymd), (3, .ref o), (4, .int (nI (6 * n9)))] := lv_sub hl [0, 1, 2, 3, 4] rfl
          exact lb_count C0 hrf hRR hgs hgl hRS hRT hRM hRK hRG hRL hRV hRX hRW hRN hRB hRE  hn6 hL9 hkc6 hks6 hPD hS hl5 hK
    · refine lv_iload hx hb d_Lw_law_23 (lv_at hl 4 rfl) ?_
      refine lv_aload_n hx hb d_Lw_law_25 rfl (lv_at hl 0 rfl) ?_
      refine va_slen hx hb hX hbl hbA hS d_Lw_law_26 ?_
      refine lv_bipush (v := 6) hx hb d_Lw_law_27 (by decide) ?_
      refine lv_isub hx hb d_Lw_law_29 ?_
      refine lv_icmp_gt (tgt := 1344) hx hb d_Lw_law_30 (by decide) (fun _ => ?_) (fun c_30 => absurd ((lx_gt hL9 hnL).mpr hn6) c_30)
      refine lv_iconst (v := 1) hx hb d_Lw_law_1344 (by decide) ?_
      refine va_forget (fun q hq => hS.2.2 q hq) ?_
      refine W.widen (k := 61024) (n := 8913034) (by omega) (by omega) ?_
      exact lw_ret hx hb hr hlocks d_Lw_law_1345
