/-! 52.rank.lean.txt -/
theorem gw_779 : (Jvm.Cond.static ({ cls := "PatchStore$Stock", name := "compareHashes", desc := "([BI[BI)I" } : Jvm.MethodName)) ∈ xg_1 := xg_s4 59 rfl rfl
theorem gw_780 : (Jvm.Cond.code ({ cls := "PatchStore$Stock", name := "compareHashes", desc := "([BI[BI)I" } : Jvm.MethodName) prog_10_method_15_code (6 : Nat) (Option.some Jvm.ClassFile.FieldType.int)) ∈ xg_1 := xg_s4 60 rfl rfl
theorem gw_824 : (Jvm.Cond.methodLink "PatchStore$Stock" (105 : Nat) ({ cls := "PatchStore$Stock", name := "compareHashes", desc := "([BI[BI)I" } : Jvm.MethodName)) ∈ xg_1 := xg_s4 104 rfl rfl
def y_St_rankOf : MethodName := ⟨"PatchStore$Stock", "rankOf", "([BI)I"⟩
abbrev c_St_rankOf : Cond := (Jvm.Cond.code ({ cls := "PatchStore$Stock", name := "rankOf", desc := "([BI)I" } : Jvm.MethodName) prog_10_method_13_code (7 : Nat) (Option.some Jvm.ClassFile.FieldType.int))
abbrev ws_St_rankOf : List Cond := c_St_rankOf :: xg_1
theorem d_St_rankOf_0 : decode prog_10_method_13_code 0 = .ok (.iconst 0, 1) := by decide +kernel
theorem d_St_rankOf_1 : decode prog_10_method_13_code 1 = .ok (.istore_n 3, 1) := by decide +kernel
theorem d_St_rankOf_2 : decode prog_10_method_13_code 2 = .ok (.aload_n 0, 1) := by decide +kernel
theorem d_St_rankOf_3 : decode prog_10_method_13_code 3 = .ok (.getfield 56, 3) := by decide +kernel
theorem d_St_rankOf_6 : decode prog_10_method_13_code 6 = .ok (.istore 4, 2) := by decide +kernel
theorem d_St_rankOf_8 : decode prog_10_method_13_code 8 = .ok (.iconst 0, 1) := by decide +kernel
theorem d_St_rankOf_9 : decode prog_10_method_13_code 9 = .ok (.istore 5, 2) := by decide +kernel
theorem d_St_rankOf_11 : decode prog_10_method_13_code 11 = .ok (.iload 5, 2) := by decide +kernel
theorem d_St_rankOf_13 : decode prog_10_method_13_code 13 = .ok (.sipush 500, 3) := by decide +kernel
theorem d_St_rankOf_16 : decode prog_10_method_13_code 16 = .ok (.if_icmp .ge 57, 3) := by decide +kernel
theorem d_St_rankOf_19 : decode prog_10_method_13_code 19 = .ok (.iload_n 3, 1) := by decide +kernel
theorem d_St_rankOf_20 : decode prog_10_method_13_code 20 = .ok (.iload 4, 2) := by decide +kernel
theorem d_St_rankOf_22 : decode prog_10_method_13_code 22 = .ok (.if_icmp .ge 51, 3) := by decide +kernel
theorem d_St_rankOf_25 : decode prog_10_method_13_code 25 = .ok (.iload_n 3, 1) := by decide +kernel
theorem d_St_rankOf_26 : decode prog_10_method_13_code 26 = .ok (.iload 4, 2) := by decide +kernel
theorem d_St_rankOf_28 : decode prog_10_method_13_code 28 = .ok (.iadd, 1) := by decide +kernel
theorem d_St_rankOf_29 : decode prog_10_method_13_code 29 = .ok (.iconst 2, 1) := by decide +kernel
theorem d_St_rankOf_30 : decode prog_10_method_13_code 30 = .ok (.idiv, 1) := by decide +kernel
theorem d_St_rankOf_31 : decode prog_10_method_13_code 31 = .ok (.istore 6, 2) := by decide +kernel
theorem d_St_rankOf_33 : decode prog_10_method_13_code 33 = .ok (.aload_n 0, 1) := by decide +kernel
theorem d_St_rankOf_34 : decode prog_10_method_13_code 34 = .ok (.getfield 29, 3) := by decide +kernel
theorem d_St_rankOf_37 : decode prog_10_method_13_code 37 = .ok (.aload_n 0, 1) := by decide +kernel
theorem d_St_rankOf_38 : decode prog_10_method_13_code 38 = .ok (.getfield 32, 3) := by decide +kernel
theorem d_St_rankOf_41 : decode prog_10_method_13_code 41 = .ok (.iload 6, 2) := by decide +kernel
theorem d_St_rankOf_43 : decode prog_10_method_13_code 43 = .ok (.iaload, 1) := by decide +kernel
theorem d_St_rankOf_44 : decode prog_10_method_13_code 44 = .ok (.bipush 32, 2) := by decide +kernel
theorem d_St_rankOf_46 : decode prog_10_method_13_code 46 = .ok (.imul, 1) := by decide +kernel
theorem d_St_rankOf_47 : decode prog_10_method_13_code 47 = .ok (.aload_n 1, 1) := by decide +kernel
theorem d_St_rankOf_48 : decode prog_10_method_13_code 48 = .ok (.iload_n 2, 1) := by decide +kernel
theorem d_St_rankOf_49 : decode prog_10_method_13_code 49 = .ok (.invokestatic 105, 3) := by decide +kernel
theorem d_St_rankOf_52 : decode prog_10_method_13_code 52 = .ok (.ifCond .ge 11, 3) := by decide +kernel
theorem d_St_rankOf_55 : decode prog_10_method_13_code 55 = .ok (.iload 6, 2) := by decide +kernel
theorem d_St_rankOf_57 : decode prog_10_method_13_code 57 = .ok (.iconst 1, 1) := by decide +kernel
theorem d_St_rankOf_58 : decode prog_10_method_13_code 58 = .ok (.iadd, 1) := by decide +kernel
theorem d_St_rankOf_59 : decode prog_10_method_13_code 59 = .ok (.istore_n 3, 1) := by decide +kernel
theorem d_St_rankOf_60 : decode prog_10_method_13_code 60 = .ok (.goto 7, 3) := by decide +kernel
theorem d_St_rankOf_63 : decode prog_10_method_13_code 63 = .ok (.iload 6, 2) := by decide +kernel
theorem d_St_rankOf_65 : decode prog_10_method_13_code 65 = .ok (.istore 4, 2) := by decide +kernel
theorem d_St_rankOf_67 : decode prog_10_method_13_code 67 = .ok (.iinc 5 1, 3) := by decide +kernel
theorem d_St_rankOf_70 : decode prog_10_method_13_code 70 = .ok (.goto (-59), 3) := by decide +kernel
theorem d_St_rankOf_73 : decode prog_10_method_13_code 73 = .ok (.iload_n 3, 1) := by decide +kernel
theorem d_St_rankOf_74 : decode prog_10_method_13_code 74 = .ok (.ireturn, 1) := by decide +kernel
/-- the hash of the i-th patch by hash is less than the one at j -/
def hsl (hf g : Nat → Int32) (Bh : Nat → Nat) (j i : Nat) : Prop := bo hf g (Bh i * 32) j 32 < 0
/-- .. its place -/
def rk_ok (hf g : Nat → Int32) (Bh : Nat → Nat) (P j r : Nat) : Prop := r ≤ P ∧ (∀ i, i < r → hsl hf g Bh j i) ∧ ∀ i, r ≤ i → i < P → ¬ hsl hf g Bh j i
set_option maxHeartbeats 4000000 in
set_option maxRecDepth 100000 in
/-- the place of a hash -/
theorem m_St_rank (l : Launch) (dC : Nat → ClassId) (dI : Nat → Nat → Nat) (cI cB cL cZ cR : ClassId) (h hs bh p2 : Nat) (sk_bytes sk_from sk_firstDependency sk_firstChange sk_dependencies sk_leansOn sk_leantBy sk_changes sk_lines : Value) (P j N2 : Nat) (hf bf g : Nat → Int32) (Bh : Nat → Nat) (sz : Nat) (hP5 : P ≤ 500) (gB : ∀ i, i < P → bf i = nI (Bh i) ∧ Bh i ≤ 500) (gM : ∀ i k, i ≤ k → k < P → hsl hf g Bh j k → hsl hf g Bh j i) (hN2 : N2 < 2 ^ 31) (hj : j + 32 ≤ N2) : Met l y_St_rankOf ws_St_rankOf ({ frames := 1, cells := 0, slots := 0, locals := 60 }) (xw_Pc dC dI [(cI, .int), (cB, .byte), (cL, .long), (cZ, .boolean), (cR, .object "PatchStore$Repository")] [.ref h, .ref p2, .int (nI j)] [(h, .inr (9, [sk_bytes, sk_from, sk_firstDependency, sk_firstChange, sk_dependencies, .ref hs, .ref bh, sk_leansOn, sk_leantBy, sk_changes, sk_lines, .int (nI P)])), (hs, .inl (cB, 16032, .inl hf)), (bh, .inl (cI, 500, .inl bf)), (p2, .inl (cB, N2, .inl g))] sz) (va_Qi (fun (r : Int32) (u : Nat) => r = nI u ∧ rk_ok hf g Bh P j u) (fun _ t => xw_B dC dI [(cI, .int), (cB, .byte), (cL, .long), (cZ, .boolean), (cR, .object "PatchStore$Repository")] (va_A [(h, .inr (9, [sk_bytes, sk_from, sk_firstDependency, sk_firstChange, sk_dependencies, .ref hs, .ref bh, sk_leansOn, sk_leantBy, sk_changes, sk_lines, .int (nI P)])), (hs, .inl (cB, 16032, .inl hf)), (bh, .inl (cI, 500, .inl bf)), (p2, .inl (cB, N2, .inl g))] sz) [(h, .inr (9, [sk_bytes, sk_from, sk_firstDependency, sk_firstChange, sk_dependencies, .ref hs, .ref bh, sk_leansOn, sk_leantBy, sk_changes, sk_lines, .int (nI P)])), (hs, .inl (cB, 16032, .inl hf)), (bh, .inl (cI, 500, .inl bf)), (p2, .inl (cB, N2, .inl g))] t) (va_A [(h, .inr (9, [sk_bytes, sk_from, sk_firstDependency, sk_firstChange, sk_dependencies, .ref hs, .ref bh, sk_leansOn, sk_leantBy, sk_changes, sk_lines, .int (nI P)])), (hs, .inl (cB, 16032, .inl hf)), (bh, .inl (cI, 500, .inl bf)), (p2, .inl (cB, N2, .inl g))] sz)) 0 0 (va_A [(h, .inr (9, [sk_bytes, sk_from, sk_firstDependency, sk_firstChange, sk_dependencies, .ref hs, .ref bh, sk_leansOn, sk_leantBy, sk_changes, sk_lines, .int (nI P)])), (hs, .inl (cB, 16032, .inl hf)), (bh, .inl (cI, 500, .inl bf)), (p2, .inl (cB, N2, .inl g))] sz) := by
  refine Met.ofW (cc := prog_10_method_13_code) (maxL := 7) (ret := (Option.some Jvm.ClassFile.FieldType.int)) (by decide) rfl ?_
  intro p e s m args below meth c s₁ B hml hv
  obtain ⟨rfl, hsz, hP, hK, hD0⟩ := hv
  have hx := B.exec
  have hb := B.bytes
  have hr := B.returns
  have hts0 := atoms_spec (ws := ws_St_rankOf) B.pre
  have hts : ∀ w ∈ xg_1, w.before _ s = true := fun w h => hts0 w (List.mem_cons_of_mem _ h)
  have hown : s.vm.findClass "PatchStore$Stock" = some m.cls := findClass_of_methodNamed B.named
  have hlocks := B.notSynchronized
  subst hsz
  have hD := hD0.self (sz := s.heap.size)
  generalize hAe : va_A [(h, .inr (9, [sk_bytes, sk_from, sk_firstDependency, sk_firstChange, sk_dependencies, .ref hs, .ref bh, sk_leansOn, sk_leantBy, sk_changes, sk_lines, .int (nI P)])), (hs, .inl (cB, 16032, .inl hf)), (bh, .inl (cI, 500, .inl bf)), (p2, .inl (cB, N2, .inl g))] s.heap.size = A at hD ⊢
  have hA : ∀ q : Nat, s.heap.size ≤ q → A q := fun q h => by rw [← hAe]; exact Or.inr h
  have hS : va_S A s.heap s.heap [] := va_S.rf
  have hl := lv_entry ([.ref h, .ref p2, .int (nI j)]) (n := 7) (Nat.le_of_ble_eq_true rfl)
  rw [lg_entry_eq]
  generalize (lg_sl ([.ref h, .ref p2, .int (nI j)]) ++ List.replicate (7 - (lg_sl ([.ref h, .ref p2, .int (nI j)])).length) Slot.unset).toArray = ls at hl ⊢
  have hl : lv_has ls 7 [(0, .ref h), (1, .ref p2), (2, .int (nI j))] := hl
  generalize hQe : MQ _ _ _ _ _ _ _ = Q
  refine lv_iconst (v := 0) hx hb d_St_rankOf_0 (by decide) ?_
  refine lv_istore_n (lv' := [(3, .int 0), (0, .ref h), (1, .ref p2), (2, .int (nI j))]) hx hb d_St_rankOf_1 rfl hl (by decide) rfl (fun ls hl => ?_)
  refine lv_aload_n hx hb d_St_rankOf_2 rfl (lv_at hl 1 rfl) ?_
  refine va_get (D := (dC, dI)) (ci := 9) (v := .int (nI P)) (C := R_St) (T := F_St) (N := 12) hx hb hts i_St hown hK hP 0 rfl rfl 11 (by decide) (hts _ gw_235) (fun _ h9 => h9) rfl d_St_rankOf_3 ?_
  refine lv_istore (lv' := [(4, .int (nI P)), (3, .int 0), (0, .ref h), (1, .ref p2), (2, .int (nI j))]) hx hb d_St_rankOf_6 hl (by decide) rfl (fun ls hl => ?_)
  refine lv_iconst (v := 0) hx hb d_St_rankOf_8 (by decide) ?_
  refine lv_istore (lv' := [(5, .int 0), (4, .int (nI P)), (3, .int 0), (0, .ref h), (1, .ref p2), (2, .int (nI j))]) hx hb d_St_rankOf_9 hl (by decide) rfl (fun ls hl => ?_)
  have loop_11 : ∀ (n : Nat) (lo : Nat) (hi : Nat) (st : Nat) (H : Heap) (locs : List Loc) (ls : Array Slot), 500 - st < n → (lo ≤ hi) → (hi ≤ P) → (hi + st ≤ P + lo) → (∀ i, i < lo → hsl hf g Bh j i) → (∀ i, hi ≤ i → i < P → ¬ hsl hf g Bh j i) → va_P (dC, dI) classes [(h, .inr (9, [sk_bytes, sk_from, sk_firstDependency, sk_firstChange, sk_dependencies, .ref hs, .ref bh, sk_leansOn, sk_leantBy, sk_changes, sk_lines, .int (nI P)])), (hs, .inl (cB, 16032, .inl hf)), (bh, .inl (cI, 500, .inl bf)), (p2, .inl (cB, N2, .inl g))] H → va_D A [(h, .inr (9, [sk_bytes, sk_from, sk_firstDependency, sk_firstChange, sk_dependencies, .ref hs, .ref bh, sk_leansOn, sk_leantBy, sk_changes, sk_lines, .int (nI P)])), (hs, .inl (cB, 16032, .inl hf)), (bh, .inl (cI, 500, .inl bf)), (p2, .inl (cB, N2, .inl g))] → va_S A s.heap H locs → lv_has ls 7 [(0, .ref h), (1, .ref p2), (2, .int (nI j)), (3, .int (nI lo)), (4, .int (nI hi)), (5, .int (nI st))] → W p l e (headSpec ws_St_rankOf ({ frames := 1, cells := 0, slots := 0, locals := 60 })).room s m ([.ref h, .ref p2, .int (nI j)] : List Value).toArray below meth c H locs 0 0 Q (F0 m 11 ls []) := by
    intro n
    induction n with
    | zero => intro lo hi st H locs ls hm; exact absurd hm (Nat.not_lt_zero _)
    | succ n ih_11 =>
      intro lo hi st H locs ls hm h1 h2 h3 hL hG hP hD hS hl
      have hs5 : st ≤ 500 := by omega
      refine lv_iload hx hb d_St_rankOf_11 (lv_at hl 5 rfl) ?_
      refine lv_sipush (v := 500) hx hb d_St_rankOf_13 (by decide) ?_
      refine lv_icmp_ge (tgt := 73) hx hb d_St_rankOf_16 (by decide) (fun c_16 => ?_) (fun c_16 => ?_)
      · have hq : lo = hi := by have := (nI_leI (a := 500) (b := st) (by omega) (by omega)).mp c_16; omega
        refine lv_iload_n hx hb d_St_rankOf_73 rfl (lv_at hl 3 rfl) ?_
        rw [← hQe]
        exact W.iret (v := nI lo) hx hb hr (fun t ht hW => ⟨⟨_, lo, rfl, ⟨rfl, by omega, hL, fun i z1 z2 => hG i (by omega) z2⟩, by rw [ht]; exact hP, va_K.moved hW.alike hK, hD⟩, hS.F ht⟩) hS.2.2 d_St_rankOf_74
      · have hs9 : st < 500 := by rcases Nat.lt_or_ge st 500 with z | z; exact z; exact absurd (nI_le (a := 500) z (by omega)) c_16
        refine lv_iload_n hx hb d_St_rankOf_19 rfl (lv_at hl 3 rfl) ?_
        refine lv_iload hx hb d_St_rankOf_20 (lv_at hl 4 rfl) ?_
        refine lv_icmp_ge (tgt := 73) hx hb d_St_rankOf_22 (by decide) (fun c_22 => ?_) (fun c_22 => ?_)
        · have hq : lo = hi := by have := (nI_leI (a := hi) (b := lo) (by omega) (by omega)).mp c_22; omega
          refine lv_iload_n hx hb d_St_rankOf_73 rfl (lv_at hl 3 rfl) ?_
          rw [← hQe]
          exact W.iret (v := nI lo) hx hb hr (fun t ht hW => ⟨⟨_, lo, rfl, ⟨rfl, by omega, hL, fun i z1 z2 => hG i (by omega) z2⟩, by rw [ht]; exact hP, va_K.moved hW.alike hK, hD⟩, hS.F ht⟩) hS.2.2 d_St_rankOf_74
        · have hlt9 : lo < hi := by rcases Nat.lt_or_ge lo hi with z | z; exact z; exact absurd (nI_le z (by omega)) c_22
          obtain ⟨hb1, hb2⟩ := gB ((lo + hi) / 2) (by omega)
          refine lv_iload_n hx hb d_St_rankOf_25 rfl (lv_at hl 3 rfl) ?_
          refine lv_iload hx hb d_St_rankOf_26 (lv_at hl 4 rfl) ?_
          refine lv_iadd hx hb d_St_rankOf_28 ?_
          refine lv_topi (fun x_1 ex_1 => ?_)
          obtain rfl : x_1 = nI (lo + hi) := by rw [ex_1]; first | done | (exact nI_add lo hi)
          refine lv_iconst (v := 2) hx hb d_St_rankOf_29 (by decide) ?_
          refine lv_idiv hx hb d_St_rankOf_30 (by decide) ?_
          refine lv_topi (fun x_2 ex_2 => ?_)
          obtain rfl : x_2 = nI ((lo + hi) / 2) := by rw [ex_2]; first | done | (exact pk_div (d := 2) (by omega) (by omega) (by omega))
          refine lv_istore (lv' := [(6, .int (nI ((lo + hi) / 2))), (0, .ref h), (1, .ref p2), (2, .int (nI j)), (3, .int (nI lo)), (4, .int (nI hi)), (5, .int (nI st))]) hx hb d_St_rankOf_31 hl (by decide) rfl (fun ls hl => ?_)
          refine lv_aload_n hx hb d_St_rankOf_33 rfl (lv_at hl 1 rfl) ?_
          refine va_get (D := (dC, dI)) (ci := 9) (v := .ref hs) (C := R_St) (T := F_St) (N := 12) hx hb hts i_St hown hK hP 0 rfl rfl 5 (by decide) (hts _ gw_204) (fun _ h9 => h9) rfl d_St_rankOf_34 ?_
          refine lv_aload_n hx hb d_St_rankOf_37 rfl (lv_at hl 1 rfl) ?_
          refine va_get (D := (dC, dI)) (ci := 9) (v := .ref bh) (C := R_St) (T := F_St) (N := 12) hx hb hts i_St hown hK hP 0 rfl rfl 6 (by decide) (hts _ gw_209) (fun _ h9 => h9) rfl d_St_rankOf_38 ?_
          refine lv_iload hx hb d_St_rankOf_41 (lv_at hl 0 rfl) ?_
          refine va_iald hx hb hK hP 2 0 rfl rfl (vp_in_nI (by omega) (by omega)) d_St_rankOf_43 ?_
          rw [show (nI ((lo + hi) / 2)).toNatClampNeg = ((lo + hi) / 2) from nI_clamp (by omega)]
          refine lv_topi (fun x_3 ex_3 => ?_)
          obtain rfl : x_3 = nI (Bh ((lo + hi) / 2)) := by rw [ex_3]; first | done | (exact hb1)
          refine lv_bipush (v := 32) hx hb d_St_rankOf_44 (by decide) ?_
          refine lv_imul hx hb d_St_rankOf_46 ?_
          refine lv_topi (fun x_4 ex_4 => ?_)
          obtain rfl : x_4 = nI (Bh ((lo + hi) / 2) * 32) := by rw [ex_4]; first | done | (exact nI_mul _ 32)
          refine lv_aload_n hx hb d_St_rankOf_47 rfl (lv_at hl 2 rfl) ?_
          refine lv_iload_n hx hb d_St_rankOf_48 rfl (lv_at hl 3 rfl) ?_
          have hPc := hP.sub (ws' := [(hs, .inl (cB, 16032, .inl hf)), (p2, .inl (cB, N2, .inl g))]) [1, 3] rfl
          have hDc := hD.sub (ws' := [(hs, .inl (cB, 16032, .inl hf)), (p2, .inl (cB, N2, .inl g))]) [1, 3] (by decide) rfl
          have hFc := va_free (wc := [(hs, .inl (cB, 16032, .inl hf)), (p2, .inl (cB, N2, .inl g))]) hD hS hA [1, 3] rfl
          refine va_calli (va_runS (As := [.ref hs, .int (nI (Bh ((lo + hi) / 2) * 32)), .ref p2, .int (nI j)]) (rest := []) ⟨hx, hb, hml, hown, hts⟩ (m_St_cmp l dC dI cI cB cL cZ cR hs p2 16032 N2 hf g (Bh ((lo + hi) / 2) * 32) j H.size (by decide) hN2 (by omega) (by omega)) ⟨callB_of 4 hts (xg_in gw_780) rfl rfl rfl (hts _ gw_3) (hts _ gw_824) (by decide +kernel) ⟨Nat.le_of_ble_eq_true rfl, Nat.le_of_ble_eq_true rfl⟩, hts _ gw_779⟩ ⟨xw_blind, fun U hU hW => ⟨rfl, by rw [hU], by rw [hU]; exact hPc, va_K.moved hW.alike hK, hDc.weaken (fun _ _ _ _ => trivial)⟩⟩ rfl rfl hl.1 rfl (lv_room (Nat.le_of_ble_eq_true rfl)) d_St_rankOf_49 ⟨Nat.le_of_ble_eq_true rfl, Nat.le_of_ble_eq_true rfl⟩) hS (fun q _ h => hFc q h) hFc (fun r9 u t H1 locs ht hvm hw hB hz1 hk1 hS => ?_)
          obtain ⟨hP1, hK1, hD1⟩ := hB
          rw [ht] at hP1
          obtain ⟨hP, hD⟩ := va_join (wr := [(h, .inr (9, [sk_bytes, sk_from, sk_firstDependency, sk_firstChange, sk_dependencies, .ref hs, .ref bh, sk_leansOn, sk_leantBy, sk_changes, sk_lines, .int (nI P)])), (bh, .inl (cI, 500, .inl bf))]) (w1 := [(hs, .inl (cB, 16032, .inl hf)), (p2, .inl (cB, N2, .inl g))]) hP hD [1, 3] [0, 2] rfl rfl (by decide) (by decide) hk1 hFc hP1 hD1
          generalize H1 = H at hP hS ⊢
          have hP : va_P (dC, dI) classes [(h, .inr (9, [sk_bytes, sk_from, sk_firstDependency, sk_firstChange, sk_dependencies, .ref hs, .ref bh, sk_leansOn, sk_leantBy, sk_changes, sk_lines, .int (nI P)])), (bh, .inl (cI, 500, .inl bf)), (hs, .inl (cB, 16032, .inl hf)), (p2, .inl (cB, N2, .inl g))] H := hP
          have hD : va_D A [(h, .inr (9, [sk_bytes, sk_from, sk_firstDependency, sk_firstChange, sk_dependencies, .ref hs, .ref bh, sk_leansOn, sk_leantBy, sk_changes, sk_lines, .int (nI P)])), (bh, .inl (cI, 500, .inl bf)), (hs, .inl (cB, 16032, .inl hf)), (p2, .inl (cB, N2, .inl g))] := hD
          subst hw
          refine lv_if_ge (tgt := 63) hx hb d_St_rankOf_52 (by decide) (fun c_52 => ?_) (fun c_52 => ?_)
          · have hmid : ¬ hsl hf g Bh j ((lo + hi) / 2) := fun z => absurd c_52 (Int32.not_le.mpr z)
            refine lv_iload hx hb d_St_rankOf_63 (lv_at hl 0 rfl) ?_
            refine lv_istore (lv' := [(4, .int (nI ((lo + hi) / 2))), (6, .int (nI ((lo + hi) / 2))), (0, .ref h), (1, .ref p2), (2, .int (nI j)), (3, .int (nI lo)), (5, .int (nI st))]) hx hb d_St_rankOf_65 hl (by decide) rfl (fun ls hl => ?_)
            refine lv_iinc (v := nI (st + 1)) (lv' := [(5, .int (nI (st + 1))), (4, .int (nI ((lo + hi) / 2))), (6, .int (nI ((lo + hi) / 2))), (0, .ref h), (1, .ref p2), (2, .int (nI j)), (3, .int (nI lo))]) hx hb d_St_rankOf_67 hl (k := 6) rfl (by exact nI_1 st) (by decide) rfl (fun ls hl => ?_)
            refine lv_goto (tgt := 11) hx hb d_St_rankOf_70 (by decide) ?_
            exact ih_11 lo ((lo + hi) / 2) (st + 1) _ _ _ (by omega) (by omega) (by omega) (by omega) (hL) (fun i z1 z2 z3 => hmid (gM _ i z1 z2 z3)) (hP.sub [0, 2, 1, 3] rfl) (hD.sub [0, 2, 1, 3] (by decide) rfl) hS (lv_sub hl [3, 4, 5, 6, 1, 0] rfl)
          · have hmid : hsl hf g Bh j ((lo + hi) / 2) := Int32.not_le.mp c_52
            refine lv_iload hx hb d_St_rankOf_55 (lv_at hl 0 rfl) ?_
            refine lv_iconst (v := 1) hx hb d_St_rankOf_57 (by decide) ?_
            refine lv_iadd hx hb d_St_rankOf_58 ?_
            refine lv_topi (fun x_5 ex_5 => ?_)
            obtain rfl : x_5 = nI (((lo + hi) / 2) + 1) := by rw [ex_5]; first | done | (exact nI_1 _)
            refine lv_istore_n (lv' := [(3, .int (nI (((lo + hi) / 2) + 1))), (6, .int (nI ((lo + hi) / 2))), (0, .ref h), (1, .ref p2), (2, .int (nI j)), (4, .int (nI hi)), (5, .int (nI st))]) hx hb d_St_rankOf_59 rfl hl (by decide) rfl (fun ls hl => ?_)
            refine lv_goto (tgt := 67) hx hb d_St_rankOf_60 (by decide) ?_
            refine lv_iinc (v := nI (st + 1)) (lv' := [(5, .int (nI (st + 1))), (3, .int (nI (((lo + hi) / 2) + 1))), (6, .int (nI ((lo + hi) / 2))), (0, .ref h), (1, .ref p2), (2, .int (nI j)), (4, .int (nI hi))]) hx hb d_St_rankOf_67 hl (k := 6) rfl (by exact nI_1 st) (by decide) rfl (fun ls hl => ?_)
            refine lv_goto (tgt := 11) hx hb d_St_rankOf_70 (by decide) ?_
            exact ih_11 (((lo + hi) / 2) + 1) hi (st + 1) _ _ _ (by omega) (by omega) (by omega) (by omega) (fun i z1 => gM i _ (by omega) (by omega) hmid) (hG) (hP.sub [0, 2, 1, 3] rfl) (hD.sub [0, 2, 1, 3] (by decide) rfl) hS (lv_sub hl [3, 4, 5, 1, 6, 0] rfl)
  exact loop_11 _ 0 P 0 _ _ _ (Nat.lt_succ_self _) (Nat.zero_le _) (Nat.le_refl _) (by omega) (fun i z => absurd z (Nat.not_lt_zero _)) (fun i z1 z2 => absurd z1 (by omega)) hP hD hS (lv_sub hl [3, 4, 5, 2, 1, 0] rfl)
set_option maxHeartbeats 4000000 in
set_option maxRecDepth 100000 in
/-- the place of a hash -/
theorem m_St_ranks (l : Launch) (dC : Nat → ClassId) (dI : Nat → Nat → Nat) (cI cB cL cZ cR : ClassId) (h hs bh : Nat) (sk_bytes sk_from sk_firstDependency sk_firstChange sk_dependencies sk_leansOn sk_leantBy sk_changes sk_lines : Value) (P j : Nat) (hf bf : Nat → Int32) (Bh : Nat → Nat) (sz : Nat) (hP5 : P ≤ 500) (gB : ∀ i, i < P → bf i = nI (Bh i) ∧ Bh i ≤ 500) (gM : ∀ i k, i ≤ k → k < P → hsl hf hf Bh j k → hsl hf hf Bh j i) (hj : j + 32 ≤ 16032) : Met l y_St_rankOf ws_St_rankOf ({ frames := 1, cells := 0, slots := 0, locals := 60 }) (xw_Pc dC dI [(cI, .int), (cB, .byte), (cL, .long), (cZ, .boolean), (cR, .object "PatchStore$Repository")] [.ref h, .ref hs, .int (nI j)] [(h, .inr (9, [sk_bytes, sk_from, sk_firstDependency, sk_firstChange, sk_dependencies, .ref hs, .ref bh, sk_leansOn, sk_leantBy, sk_changes, sk_lines, .int (nI P)])), (hs, .inl (cB, 16032, .inl hf)), (bh, .inl (cI, 500, .inl bf))] sz) (va_Qi (fun (r : Int32) (u : Nat) => r = nI u ∧ rk_ok hf hf Bh P j u) (fun _ t => xw_B dC dI [(cI, .int), (cB, .byte), (cL, .long), (cZ, .boolean), (cR, .object "PatchStore$Repository")] (va_A [(h, .inr (9, [sk_bytes, sk_from, sk_firstDependency, sk_firstChange, sk_dependencies, .ref hs, .ref bh, sk_leansOn, sk_leantBy, sk_changes, sk_lines, .int (nI P)])), (hs, .inl (cB, 16032, .inl hf)), (bh, .inl (cI, 500, .inl bf))] sz) [(h, .inr (9, [sk_bytes, sk_from, sk_firstDependency, sk_firstChange, sk_dependencies, .ref hs, .ref bh, sk_leansOn, sk_leantBy, sk_changes, sk_lines, .int (nI P)])), (hs, .inl (cB, 16032, .inl hf)), (bh, .inl (cI, 500, .inl bf))] t) (va_A [(h, .inr (9, [sk_bytes, sk_from, sk_firstDependency, sk_firstChange, sk_dependencies, .ref hs, .ref bh, sk_leansOn, sk_leantBy, sk_changes, sk_lines, .int (nI P)])), (hs, .inl (cB, 16032, .inl hf)), (bh, .inl (cI, 500, .inl bf))] sz)) 0 0 (va_A [(h, .inr (9, [sk_bytes, sk_from, sk_firstDependency, sk_firstChange, sk_dependencies, .ref hs, .ref bh, sk_leansOn, sk_leantBy, sk_changes, sk_lines, .int (nI P)])), (hs, .inl (cB, 16032, .inl hf)), (bh, .inl (cI, 500, .inl bf))] sz) := by
  refine Met.ofW (cc := prog_10_method_13_code) (maxL := 7) (ret := (Option.some Jvm.ClassFile.FieldType.int)) (by decide) rfl ?_
  intro p e s m args below meth c s₁ B hml hv
  obtain ⟨rfl, hsz, hP, hK, hD0⟩ := hv
  have hx := B.exec
  have hb := B.bytes
  have hr := B.returns
  have hts0 := atoms_spec (ws := ws_St_rankOf) B.pre
  have hts : ∀ w ∈ xg_1, w.before _ s = true := fun w h => hts0 w (List.mem_cons_of_mem _ h)
  have hown : s.vm.findClass "PatchStore$Stock" = some m.cls := findClass_of_methodNamed B.named
  have hlocks := B.notSynchronized
  subst hsz
  have hD := hD0.self (sz := s.heap.size)
  generalize hAe : va_A [(h, .inr (9, [sk_bytes, sk_from, sk_firstDependency, sk_firstChange, sk_dependencies, .ref hs, .ref bh, sk_leansOn, sk_leantBy, sk_changes, sk_lines, .int (nI P)])), (hs, .inl (cB, 16032, .inl hf)), (bh, .inl (cI, 500, .inl bf))] s.heap.size = A at hD ⊢
  have hA : ∀ q : Nat, s.heap.size ≤ q → A q := fun q h => by rw [← hAe]; exact Or.inr h
  have hS : va_S A s.heap s.heap [] := va_S.rf
  have hl := lv_entry ([.ref h, .ref hs, .int (nI j)]) (n := 7) (Nat.le_of_ble_eq_true rfl)
  rw [lg_entry_eq]
  generalize (lg_sl ([.ref h, .ref hs, .int (nI j)]) ++ List.replicate (7 - (lg_sl ([.ref h, .ref hs, .int (nI j)])).length) Slot.unset).toArray = ls at hl ⊢
  have hl : lv_has ls 7 [(0, .ref h), (1, .ref hs), (2, .int (nI j))] := hl
  generalize hQe : MQ _ _ _ _ _ _ _ = Q
  refine lv_iconst (v := 0) hx hb d_St_rankOf_0 (by decide) ?_
  refine lv_istore_n (lv' := [(3, .int 0), (0, .ref h), (1, .ref hs), (2, .int (nI j))]) hx hb d_St_rankOf_1 rfl hl (by decide) rfl (fun ls hl => ?_)
  refine lv_aload_n hx hb d_St_rankOf_2 rfl (lv_at hl 1 rfl) ?_
  refine va_get (D := (dC, dI)) (ci := 9) (v := .int (nI P)) (C := R_St) (T := F_St) (N := 12) hx hb hts i_St hown hK hP 0 rfl rfl 11 (by decide) (hts _ gw_235) (fun _ h9 => h9) rfl d_St_rankOf_3 ?_
  refine lv_istore (lv' := [(4, .int (nI P)), (3, .int 0), (0, .ref h), (1, .ref hs), (2, .int (nI j))]) hx hb d_St_rankOf_6 hl (by decide) rfl (fun ls hl => ?_)
  refine lv_iconst (v := 0) hx hb d_St_rankOf_8 (by decide) ?_
  refine lv_istore (lv' := [(5, .int 0), (4, .int (nI P)), (3, .int 0), (0, .ref h), (1, .ref hs), (2, .int (nI j))]) hx hb d_St_rankOf_9 hl (by decide) rfl (fun ls hl => ?_)
  have loop_11 : ∀ (n : Nat) (lo : Nat) (hi : Nat) (st : Nat) (H : Heap) (locs : List Loc) (ls : Array Slot), 500 - st < n → (lo ≤ hi) → (hi ≤ P) → (hi + st ≤ P + lo) → (∀ i, i < lo → hsl hf hf Bh j i) → (∀ i, hi ≤ i → i < P → ¬ hsl hf hf Bh j i) → va_P (dC, dI) classes [(h, .inr (9, [sk_bytes, sk_from, sk_firstDependency, sk_firstChange, sk_dependencies, .ref hs, .ref bh, sk_leansOn, sk_leantBy, sk_changes, sk_lines, .int (nI P)])), (hs, .inl (cB, 16032, .inl hf)), (bh, .inl (cI, 500, .inl bf))] H → va_D A [(h, .inr (9, [sk_bytes, sk_from, sk_firstDependency, sk_firstChange, sk_dependencies, .ref hs, .ref bh, sk_leansOn, sk_leantBy, sk_changes, sk_lines, .int (nI P)])), (hs, .inl (cB, 16032, .inl hf)), (bh, .inl (cI, 500, .inl bf))] → va_S A s.heap H locs → lv_has ls 7 [(0, .ref h), (1, .ref hs), (2, .int (nI j)), (3, .int (nI lo)), (4, .int (nI hi)), (5, .int (nI st))] → W p l e (headSpec ws_St_rankOf ({ frames := 1, cells := 0, slots := 0, locals := 60 })).room s m ([.ref h, .ref hs, .int (nI j)] : List Value).toArray below meth c H locs 0 0 Q (F0 m 11 ls []) := by
    intro n
    induction n with
    | zero => intro lo hi st H locs ls hm; exact absurd hm (Nat.not_lt_zero _)
    | succ n ih_11 =>
      intro lo hi st H locs ls hm h1 h2 h3 hL hG hP hD hS hl
      have hs5 : st ≤ 500 := by omega
      refine lv_iload hx hb d_St_rankOf_11 (lv_at hl 5 rfl) ?_
      refine lv_sipush (v := 500) hx hb d_St_rankOf_13 (by decide) ?_
      refine lv_icmp_ge (tgt := 73) hx hb d_St_rankOf_16 (by decide) (fun c_16 => ?_) (fun c_16 => ?_)
      · have hq : lo = hi := by have := (nI_leI (a := 500) (b := st) (by omega) (by omega)).mp c_16; omega
        refine lv_iload_n hx hb d_St_rankOf_73 rfl (lv_at hl 3 rfl) ?_
        rw [← hQe]
        exact W.iret (v := nI lo) hx hb hr (fun t ht hW => ⟨⟨_, lo, rfl, ⟨rfl, by omega, hL, fun i z1 z2 => hG i (by omega) z2⟩, by rw [ht]; exact hP, va_K.moved hW.alike hK, hD⟩, hS.F ht⟩) hS.2.2 d_St_rankOf_74
      · have hs9 : st < 500 := by rcases Nat.lt_or_ge st 500 with z | z; exact z; exact absurd (nI_le (a := 500) z (by omega)) c_16
        refine lv_iload_n hx hb d_St_rankOf_19 rfl (lv_at hl 3 rfl) ?_
        refine lv_iload hx hb d_St_rankOf_20 (lv_at hl 4 rfl) ?_
        refine lv_icmp_ge (tgt := 73) hx hb d_St_rankOf_22 (by decide) (fun c_22 => ?_) (fun c_22 => ?_)
        · have hq : lo = hi := by have := (nI_leI (a := hi) (b := lo) (by omega) (by omega)).mp c_22; omega
          refine lv_iload_n hx hb d_St_rankOf_73 rfl (lv_at hl 3 rfl) ?_
          rw [← hQe]
          exact W.iret (v := nI lo) hx hb hr (fun t ht hW => ⟨⟨_, lo, rfl, ⟨rfl, by omega, hL, fun i z1 z2 => hG i (by omega) z2⟩, by rw [ht]; exact hP, va_K.moved hW.alike hK, hD⟩, hS.F ht⟩) hS.2.2 d_St_rankOf_74
        · have hlt9 : lo < hi := by rcases Nat.lt_or_ge lo hi with z | z; exact z; exact absurd (nI_le z (by omega)) c_22
          obtain ⟨hb1, hb2⟩ := gB ((lo + hi) / 2) (by omega)
          refine lv_iload_n hx hb d_St_rankOf_25 rfl (lv_at hl 3 rfl) ?_
          refine lv_iload hx hb d_St_rankOf_26 (lv_at hl 4 rfl) ?_
          refine lv_iadd hx hb d_St_rankOf_28 ?_
          refine lv_topi (fun x_1 ex_1 => ?_)
          obtain rfl : x_1 = nI (lo + hi) := by rw [ex_1]; first | done | (exact nI_add lo hi)
          refine lv_iconst (v := 2) hx hb d_St_rankOf_29 (by decide) ?_
          refine lv_idiv hx hb d_St_rankOf_30 (by decide) ?_
          refine lv_topi (fun x_2 ex_2 => ?_)
          obtain rfl : x_2 = nI ((lo + hi) / 2) := by rw [ex_2]; first | done | (exact pk_div (d := 2) (by omega) (by omega) (by omega))
          refine lv_istore (lv' := [(6, .int (nI ((lo + hi) / 2))), (0, .ref h), (1, .ref hs), (2, .int (nI j)), (3, .int (nI lo)), (4, .int (nI hi)), (5, .int (nI st))]) hx hb d_St_rankOf_31 hl (by decide) rfl (fun ls hl => ?_)
          refine lv_aload_n hx hb d_St_rankOf_33 rfl (lv_at hl 1 rfl) ?_
          refine va_get (D := (dC, dI)) (ci := 9) (v := .ref hs) (C := R_St) (T := F_St) (N := 12) hx hb hts i_St hown hK hP 0 rfl rfl 5 (by decide) (hts _ gw_204) (fun _ h9 => h9) rfl d_St_rankOf_34 ?_
          refine lv_aload_n hx hb d_St_rankOf_37 rfl (lv_at hl 1 rfl) ?_
          refine va_get (D := (dC, dI)) (ci := 9) (v := .ref bh) (C := R_St) (T := F_St) (N := 12) hx hb hts i_St hown hK hP 0 rfl rfl 6 (by decide) (hts _ gw_209) (fun _ h9 => h9) rfl d_St_rankOf_38 ?_
          refine lv_iload hx hb d_St_rankOf_41 (lv_at hl 0 rfl) ?_
          refine va_iald hx hb hK hP 2 0 rfl rfl (vp_in_nI (by omega) (by omega)) d_St_rankOf_43 ?_
          rw [show (nI ((lo + hi) / 2)).toNatClampNeg = ((lo + hi) / 2) from nI_clamp (by omega)]
          refine lv_topi (fun x_3 ex_3 => ?_)
          obtain rfl : x_3 = nI (Bh ((lo + hi) / 2)) := by rw [ex_3]; first | done | (exact hb1)
          refine lv_bipush (v := 32) hx hb d_St_rankOf_44 (by decide) ?_
          refine lv_imul hx hb d_St_rankOf_46 ?_
          refine lv_topi (fun x_4 ex_4 => ?_)
          obtain rfl : x_4 = nI (Bh ((lo + hi) / 2) * 32) := by rw [ex_4]; first | done | (exact nI_mul _ 32)
          refine lv_aload_n hx hb d_St_rankOf_47 rfl (lv_at hl 2 rfl) ?_
          refine lv_iload_n hx hb d_St_rankOf_48 rfl (lv_at hl 3 rfl) ?_
          have hPc := hP.sub (ws' := [(hs, .inl (cB, 16032, .inl hf))]) [1] rfl
          have hDc := hD.sub (ws' := [(hs, .inl (cB, 16032, .inl hf))]) [1] (by decide) rfl
          have hFc := va_free (wc := [(hs, .inl (cB, 16032, .inl hf))]) hD hS hA [1] rfl
          refine va_calli (va_runS (As := [.ref hs, .int (nI (Bh ((lo + hi) / 2) * 32)), .ref hs, .int (nI j)]) (rest := []) ⟨hx, hb, hml, hown, hts⟩ (m_St_cmps l dC dI cI cB cL cZ cR hs 16032 hf (Bh ((lo + hi) / 2) * 32) j H.size (by decide) (by omega) (by omega)) ⟨callB_of 4 hts (xg_in gw_780) rfl rfl rfl (hts _ gw_3) (hts _ gw_824) (by decide +kernel) ⟨Nat.le_of_ble_eq_true rfl, Nat.le_of_ble_eq_true rfl⟩, hts _ gw_779⟩ ⟨xw_blind, fun U hU hW => ⟨rfl, by rw [hU], by rw [hU]; exact hPc, va_K.moved hW.alike hK, hDc.weaken (fun _ _ _ _ => trivial)⟩⟩ rfl rfl hl.1 rfl (lv_room (Nat.le_of_ble_eq_true rfl)) d_St_rankOf_49 ⟨Nat.le_of_ble_eq_true rfl, Nat.le_of_ble_eq_true rfl⟩) hS (fun q _ h => hFc q h) hFc (fun r9 u t H1 locs ht hvm hw hB hz1 hk1 hS => ?_)
          obtain ⟨hP1, hK1, hD1⟩ := hB
          rw [ht] at hP1
          obtain ⟨hP, hD⟩ := va_join (wr := [(h, .inr (9, [sk_bytes, sk_from, sk_firstDependency, sk_firstChange, sk_dependencies, .ref hs, .ref bh, sk_leansOn, sk_leantBy, sk_changes, sk_lines, .int (nI P)])), (bh, .inl (cI, 500, .inl bf))]) (w1 := [(hs, .inl (cB, 16032, .inl hf))]) hP hD [1] [0, 2] rfl rfl (by decide) (by decide) hk1 hFc hP1 hD1
          generalize H1 = H at hP hS ⊢
          have hP : va_P (dC, dI) classes [(h, .inr (9, [sk_bytes, sk_from, sk_firstDependency, sk_firstChange, sk_dependencies, .ref hs, .ref bh, sk_leansOn, sk_leantBy, sk_changes, sk_lines, .int (nI P)])), (bh, .inl (cI, 500, .inl bf)), (hs, .inl (cB, 16032, .inl hf))] H := hP
          have hD : va_D A [(h, .inr (9, [sk_bytes, sk_from, sk_firstDependency, sk_firstChange, sk_dependencies, .ref hs, .ref bh, sk_leansOn, sk_leantBy, sk_changes, sk_lines, .int (nI P)])), (bh, .inl (cI, 500, .inl bf)), (hs, .inl (cB, 16032, .inl hf))] := hD
          subst hw
          refine lv_if_ge (tgt := 63) hx hb d_St_rankOf_52 (by decide) (fun c_52 => ?_) (fun c_52 => ?_)
          · have hmid : ¬ hsl hf hf Bh j ((lo + hi) / 2) := fun z => absurd c_52 (Int32.not_le.mpr z)
            refine lv_iload hx hb d_St_rankOf_63 (lv_at hl 0 rfl) ?_
            refine lv_istore (lv' := [(4, .int (nI ((lo + hi) / 2))), (6, .int (nI ((lo + hi) / 2))), (0, .ref h), (1, .ref hs), (2, .int (nI j)), (3, .int (nI lo)), (5, .int (nI st))]) hx hb d_St_rankOf_65 hl (by decide) rfl (fun ls hl => ?_)
            refine lv_iinc (v := nI (st + 1)) (lv' := [(5, .int (nI (st + 1))), (4, .int (nI ((lo + hi) / 2))), (6, .int (nI ((lo + hi) / 2))), (0, .ref h), (1, .ref hs), (2, .int (nI j)), (3, .int (nI lo))]) hx hb d_St_rankOf_67 hl (k := 6) rfl (by exact nI_1 st) (by decide) rfl (fun ls hl => ?_)
            refine lv_goto (tgt := 11) hx hb d_St_rankOf_70 (by decide) ?_
            exact ih_11 lo ((lo + hi) / 2) (st + 1) _ _ _ (by omega) (by omega) (by omega) (by omega) (hL) (fun i z1 z2 z3 => hmid (gM _ i z1 z2 z3)) (hP.sub [0, 2, 1] rfl) (hD.sub [0, 2, 1] (by decide) rfl) hS (lv_sub hl [3, 4, 5, 6, 1, 0] rfl)
          · have hmid : hsl hf hf Bh j ((lo + hi) / 2) := Int32.not_le.mp c_52
            refine lv_iload hx hb d_St_rankOf_55 (lv_at hl 0 rfl) ?_
            refine lv_iconst (v := 1) hx hb d_St_rankOf_57 (by decide) ?_
            refine lv_iadd hx hb d_St_rankOf_58 ?_
            refine lv_topi (fun x_5 ex_5 => ?_)
            obtain rfl : x_5 = nI (((lo + hi) / 2) + 1) := by rw [ex_5]; first | done | (exact nI_1 _)
            refine lv_istore_n (lv' := [(3, .int (nI (((lo + hi) / 2) + 1))), (6, .int (nI ((lo + hi) / 2))), (0, .ref h), (1, .ref hs), (2, .int (nI j)), (4, .int (nI hi)), (5, .int (nI st))]) hx hb d_St_rankOf_59 rfl hl (by decide) rfl (fun ls hl => ?_)
            refine lv_goto (tgt := 67) hx hb d_St_rankOf_60 (by decide) ?_
            refine lv_iinc (v := nI (st + 1)) (lv' := [(5, .int (nI (st + 1))), (3, .int (nI (((lo + hi) / 2) + 1))), (6, .int (nI ((lo + hi) / 2))), (0, .ref h), (1, .ref hs), (2, .int (nI j)), (4, .int (nI hi))]) hx hb d_St_rankOf_67 hl (k := 6) rfl (by exact nI_1 st) (by decide) rfl (fun ls hl => ?_)
            refine lv_goto (tgt := 11) hx hb d_St_rankOf_70 (by decide) ?_
            exact ih_11 (((lo + hi) / 2) + 1) hi (st + 1) _ _ _ (by omega) (by omega) (by omega) (by omega) (fun i z1 => gM i _ (by omega) (by omega) hmid) (hG) (hP.sub [0, 2, 1] rfl) (hD.sub [0, 2, 1] (by decide) rfl) hS (lv_sub hl [3, 4, 5, 1, 6, 0] rfl)
  exact loop_11 _ 0 P 0 _ _ _ (Nat.lt_succ_self _) (Nat.zero_le _) (Nat.le_refl _) (by omega) (fun i z => absurd z (Nat.not_lt_zero _)) (fun i z1 z2 => absurd z1 (by omega)) hP hD hS (lv_sub hl [3, 4, 5, 2, 1, 0] rfl)
