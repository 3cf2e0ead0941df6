/-! 53.with.lean.txt -/
theorem gw_820 : (Jvm.Cond.methodLink "PatchStore$Stock" (109 : Nat) ({ cls := "PatchStore$Stock", name := "rankOf", desc := "([BI)I" } : Jvm.MethodName)) ∈ xg_1 := xg_s4 100 rfl rfl
theorem gw_821 : (Jvm.Cond.instanceMethod ({ cls := "PatchStore$Stock", name := "rankOf", desc := "([BI)I" } : Jvm.MethodName)) ∈ xg_1 := xg_s4 101 rfl rfl
theorem gw_822 : (Jvm.Cond.selects "PatchStore$Stock" ({ cls := "PatchStore$Stock", name := "rankOf", desc := "([BI)I" } : Jvm.MethodName) ({ cls := "PatchStore$Stock", name := "rankOf", desc := "([BI)I" } : Jvm.MethodName)) ∈ xg_1 := xg_s4 102 rfl rfl
theorem gw_823 : (Jvm.Cond.code ({ cls := "PatchStore$Stock", name := "rankOf", desc := "([BI)I" } : Jvm.MethodName) prog_10_method_13_code (7 : Nat) (Option.some Jvm.ClassFile.FieldType.int)) ∈ xg_1 := xg_s4 103 rfl rfl
def y_St_patchWith : MethodName := ⟨"PatchStore$Stock", "patchWith", "([BI)I"⟩
abbrev c_St_patchWith : Cond := (Jvm.Cond.code ({ cls := "PatchStore$Stock", name := "patchWith", desc := "([BI)I" } : Jvm.MethodName) prog_10_method_14_code (4 : Nat) (Option.some Jvm.ClassFile.FieldType.int))
abbrev ws_St_patchWith : List Cond := c_St_patchWith :: xg_1
theorem d_St_patchWith_0 : decode prog_10_method_14_code 0 = .ok (.aload_n 0, 1) := by decide +kernel
theorem d_St_patchWith_1 : decode prog_10_method_14_code 1 = .ok (.aload_n 1, 1) := by decide +kernel
theorem d_St_patchWith_2 : decode prog_10_method_14_code 2 = .ok (.iload_n 2, 1) := by decide +kernel
theorem d_St_patchWith_3 : decode prog_10_method_14_code 3 = .ok (.invokevirtual 109, 3) := by decide +kernel
theorem d_St_patchWith_6 : decode prog_10_method_14_code 6 = .ok (.istore_n 3, 1) := by decide +kernel
theorem d_St_patchWith_7 : decode prog_10_method_14_code 7 = .ok (.iload_n 3, 1) := by decide +kernel
theorem d_St_patchWith_8 : decode prog_10_method_14_code 8 = .ok (.aload_n 0, 1) := by decide +kernel
theorem d_St_patchWith_9 : decode prog_10_method_14_code 9 = .ok (.getfield 56, 3) := by decide +kernel
theorem d_St_patchWith_12 : decode prog_10_method_14_code 12 = .ok (.if_icmp .ge 24, 3) := by decide +kernel
theorem d_St_patchWith_15 : decode prog_10_method_14_code 15 = .ok (.aload_n 0, 1) := by decide +kernel
theorem d_St_patchWith_16 : decode prog_10_method_14_code 16 = .ok (.getfield 29, 3) := by decide +kernel
theorem d_St_patchWith_19 : decode prog_10_method_14_code 19 = .ok (.aload_n 0, 1) := by decide +kernel
theorem d_St_patchWith_20 : decode prog_10_method_14_code 20 = .ok (.getfield 32, 3) := by decide +kernel
theorem d_St_patchWith_23 : decode prog_10_method_14_code 23 = .ok (.iload_n 3, 1) := by decide +kernel
theorem d_St_patchWith_24 : decode prog_10_method_14_code 24 = .ok (.iaload, 1) := by decide +kernel
theorem d_St_patchWith_25 : decode prog_10_method_14_code 25 = .ok (.bipush 32, 2) := by decide +kernel
theorem d_St_patchWith_27 : decode prog_10_method_14_code 27 = .ok (.imul, 1) := by decide +kernel
theorem d_St_patchWith_28 : decode prog_10_method_14_code 28 = .ok (.aload_n 1, 1) := by decide +kernel
theorem d_St_patchWith_29 : decode prog_10_method_14_code 29 = .ok (.iload_n 2, 1) := by decide +kernel
theorem d_St_patchWith_30 : decode prog_10_method_14_code 30 = .ok (.invokestatic 105, 3) := by decide +kernel
theorem d_St_patchWith_33 : decode prog_10_method_14_code 33 = .ok (.ifCond .eq 5, 3) := by decide +kernel
theorem d_St_patchWith_36 : decode prog_10_method_14_code 36 = .ok (.iconst (-1), 1) := by decide +kernel
theorem d_St_patchWith_37 : decode prog_10_method_14_code 37 = .ok (.ireturn, 1) := by decide +kernel
theorem d_St_patchWith_38 : decode prog_10_method_14_code 38 = .ok (.aload_n 0, 1) := by decide +kernel
theorem d_St_patchWith_39 : decode prog_10_method_14_code 39 = .ok (.getfield 32, 3) := by decide +kernel
theorem d_St_patchWith_42 : decode prog_10_method_14_code 42 = .ok (.iload_n 3, 1) := by decide +kernel
theorem d_St_patchWith_43 : decode prog_10_method_14_code 43 = .ok (.iaload, 1) := by decide +kernel
theorem d_St_patchWith_44 : decode prog_10_method_14_code 44 = .ok (.ireturn, 1) := by decide +kernel
/-- n bytes as numbers -/
def sq (f : Nat → Int32) : Nat → Nat → List Nat
  | _, 0 => []
  | i, n + 1 => b8 (f i) :: sq f (i + 1) n
theorem nI_sub_toInt {a b : Nat} (ha : a < 256) (hb : b < 256) : (nI a - nI b).toInt = (a : Int) - b := by
  rw [Int32.toInt_sub, nI_toInt (by omega), nI_toInt (by omega)]
  rw [Int.bmod_eq_of_le] <;> omega
theorem nI_sub_z {a b : Nat} (ha : a < 256) (hb : b < 256) : nI a - nI b = 0 ↔ a = b := by
  rw [← Int32.toInt_inj, nI_sub_toInt ha hb, show (0 : Int32).toInt = 0 from rfl]; omega
theorem nI_sub_lt {a b : Nat} (ha : a < 256) (hb : b < 256) : nI a - nI b < 0 ↔ a < b := by
  rw [Int32.lt_iff_toInt_lt, nI_sub_toInt ha hb, show (0 : Int32).toInt = 0 from rfl]; omega
theorem bo_z (f g : Nat → Int32) : ∀ n i j : Nat, bo f g i j n = 0 ↔ sq f i n = sq g j n
  | 0, _, _ => ⟨fun _ => rfl, fun _ => rfl⟩
  | n + 1, i, j => by
    rw [bo_s]
    have hz := nI_sub_z (b8_lt (f i)) (b8_lt (g j))
    show _ ↔ b8 (f i) :: sq f (i + 1) n = b8 (g j) :: sq g (j + 1) n
    rw [List.cons_eq_cons]
    by_cases h : nI (b8 (f i)) - nI (b8 (g j)) = 0
    · rw [if_pos h, bo_z f g n (i + 1) (j + 1)]
      exact ⟨fun q => ⟨hz.mp h, q⟩, fun q => q.2⟩
    · rw [if_neg h]
      exact ⟨fun q => absurd q h, fun q => absurd (hz.mpr q.1) h⟩
theorem bo_lt (f g : Nat → Int32) : ∀ n i j : Nat, bo f g i j n < 0 ↔ sq f i n < sq g j n
  | 0, _, _ => ⟨fun h => absurd h (by show ¬ (0 : Int32) < 0; decide), fun h => absurd h (List.lt_irrefl _)⟩
  | n + 1, i, j => by
    rw [bo_s]
    have hz := nI_sub_z (b8_lt (f i)) (b8_lt (g j))
    have hl := nI_sub_lt (b8_lt (f i)) (b8_lt (g j))
    show _ ↔ b8 (f i) :: sq f (i + 1) n < b8 (g j) :: sq g (j + 1) n
    rw [List.cons_lt_cons_iff]
    by_cases h : nI (b8 (f i)) - nI (b8 (g j)) = 0
    · rw [if_pos h, bo_lt f g n (i + 1) (j + 1)]
      have := hz.mp h
      exact ⟨fun q => Or.inr ⟨this, q⟩, fun q => q.elim (fun z => by omega) (fun z => z.2)⟩
    · rw [if_neg h, hl]
      exact ⟨Or.inl, fun q => q.elim id (fun z => absurd (hz.mpr z.1) h)⟩
/-- the patches by hash: Bh goes through P patches, their hashes rise -/
def hs_up (hf : Nat → Int32) (Bh : Nat → Nat) (P : Nat) : Prop := ∀ i k, i < k → k < P → sq hf (Bh i * 32) 32 < sq hf (Bh k * 32) 32
theorem hs_up.mono {hf g : Nat → Int32} {Bh : Nat → Nat} {P j : Nat} (h : hs_up hf Bh P) : ∀ i k, i ≤ k → k < P → hsl hf g Bh j k → hsl hf g Bh j i := by
  intro i k h1 h2 h3
  rcases Nat.eq_or_lt_of_le h1 with rfl | h4
  · exact h3
  · exact (bo_lt _ _ _ _ _).mpr (List.lt_trans (h i k h4 h2) ((bo_lt _ _ _ _ _).mp h3))
theorem hs_up.zero {hf g : Nat → Int32} {Bh : Nat → Nat} {P j : Nat} (h : hs_up hf Bh P) : ∀ i k, i < k → k < P → bo hf g (Bh k * 32) j 32 = 0 → hsl hf g Bh j i := by
  intro i k h1 h2 h3
  refine (bo_lt _ _ _ _ _).mpr ?_
  rw [← (bo_z _ _ _ _ _).mp h3]
  exact h i k h1 h2
/-- a patch with the hash at j, or none -/
def pw_ok (hf g : Nat → Int32) (Bh : Nat → Nat) (P j : Nat) (r : Int32) : Prop := (r = -1 ∧ ∀ i, i < P → ¬ sq hf (Bh i * 32) 32 = sq g j 32) ∨ ∃ i, i < P ∧ sq hf (Bh i * 32) 32 = sq g j 32 ∧ r = nI (Bh i)
set_option maxHeartbeats 4000000 in
set_option maxRecDepth 100000 in
/-- a patch by its hash -/
theorem m_St_patchWith (l : Launch) (dC : Nat → ClassId) (dI : Nat → Nat → Nat) (cI cB cL cZ cR : ClassId) (h hs bh p2 : Nat) (sk_bytes sk_from sk_firstDependency sk_firstChange sk_dependencies sk_leansOn sk_leantBy sk_changes sk_lines : Value) (P j N2 : Nat) (hf bf g : Nat → Int32) (Bh : Nat → Nat) (sz : Nat) (hP5 : P ≤ 500) (gB : ∀ i, i < P → bf i = nI (Bh i) ∧ Bh i ≤ 500) (gU : hs_up hf Bh P) (hN2 : N2 < 2 ^ 31) (hj : j + 32 ≤ N2) : Met l y_St_patchWith ws_St_patchWith ({ frames := 2, cells := 0, slots := 0, locals := 100 }) (xw_Pc dC dI [(cI, .int), (cB, .byte), (cL, .long), (cZ, .boolean), (cR, .object "PatchStore$Repository")] [.ref h, .ref p2, .int (nI j)] [(h, .inr (9, [sk_bytes, sk_from, sk_firstDependency, sk_firstChange, sk_dependencies, .ref hs, .ref bh, sk_leansOn, sk_leantBy, sk_changes, sk_lines, .int (nI P)])), (hs, .inl (cB, 16032, .inl hf)), (bh, .inl (cI, 500, .inl bf)), (p2, .inl (cB, N2, .inl g))] sz) (va_Qi (fun (r : Int32) (_ : Unit) => pw_ok hf g Bh P j r) (fun _ t => xw_B dC dI [(cI, .int), (cB, .byte), (cL, .long), (cZ, .boolean), (cR, .object "PatchStore$Repository")] (va_A [(h, .inr (9, [sk_bytes, sk_from, sk_firstDependency, sk_firstChange, sk_dependencies, .ref hs, .ref bh, sk_leansOn, sk_leantBy, sk_changes, sk_lines, .int (nI P)])), (hs, .inl (cB, 16032, .inl hf)), (bh, .inl (cI, 500, .inl bf)), (p2, .inl (cB, N2, .inl g))] sz) [(h, .inr (9, [sk_bytes, sk_from, sk_firstDependency, sk_firstChange, sk_dependencies, .ref hs, .ref bh, sk_leansOn, sk_leantBy, sk_changes, sk_lines, .int (nI P)])), (hs, .inl (cB, 16032, .inl hf)), (bh, .inl (cI, 500, .inl bf)), (p2, .inl (cB, N2, .inl g))] t) (va_A [(h, .inr (9, [sk_bytes, sk_from, sk_firstDependency, sk_firstChange, sk_dependencies, .ref hs, .ref bh, sk_leansOn, sk_leantBy, sk_changes, sk_lines, .int (nI P)])), (hs, .inl (cB, 16032, .inl hf)), (bh, .inl (cI, 500, .inl bf)), (p2, .inl (cB, N2, .inl g))] sz)) 0 0 (va_A [(h, .inr (9, [sk_bytes, sk_from, sk_firstDependency, sk_firstChange, sk_dependencies, .ref hs, .ref bh, sk_leansOn, sk_leantBy, sk_changes, sk_lines, .int (nI P)])), (hs, .inl (cB, 16032, .inl hf)), (bh, .inl (cI, 500, .inl bf)), (p2, .inl (cB, N2, .inl g))] sz) := by
  refine Met.ofW (cc := prog_10_method_14_code) (maxL := 4) (ret := (Option.some Jvm.ClassFile.FieldType.int)) (by decide) rfl ?_
  intro p e s m args below meth c s₁ B hml hv
  obtain ⟨rfl, hsz, hP, hK, hD0⟩ := hv
  have hx := B.exec
  have hb := B.bytes
  have hr := B.returns
  have hts0 := atoms_spec (ws := ws_St_patchWith) B.pre
  have hts : ∀ w ∈ xg_1, w.before _ s = true := fun w h => hts0 w (List.mem_cons_of_mem _ h)
  have hown : s.vm.findClass "PatchStore$Stock" = some m.cls := findClass_of_methodNamed B.named
  have hlocks := B.notSynchronized
  subst hsz
  have hD := hD0.self (sz := s.heap.size)
  generalize hAe : va_A [(h, .inr (9, [sk_bytes, sk_from, sk_firstDependency, sk_firstChange, sk_dependencies, .ref hs, .ref bh, sk_leansOn, sk_leantBy, sk_changes, sk_lines, .int (nI P)])), (hs, .inl (cB, 16032, .inl hf)), (bh, .inl (cI, 500, .inl bf)), (p2, .inl (cB, N2, .inl g))] s.heap.size = A at hD ⊢
  have hA : ∀ q : Nat, s.heap.size ≤ q → A q := fun q h => by rw [← hAe]; exact Or.inr h
  have hS : va_S A s.heap s.heap [] := va_S.rf
  have hl := lv_entry ([.ref h, .ref p2, .int (nI j)]) (n := 4) (Nat.le_of_ble_eq_true rfl)
  rw [lg_entry_eq]
  generalize (lg_sl ([.ref h, .ref p2, .int (nI j)]) ++ List.replicate (4 - (lg_sl ([.ref h, .ref p2, .int (nI j)])).length) Slot.unset).toArray = ls at hl ⊢
  have hl : lv_has ls 4 [(0, .ref h), (1, .ref p2), (2, .int (nI j))] := hl
  refine lv_aload_n hx hb d_St_patchWith_0 rfl (lv_at hl 0 rfl) ?_
  refine lv_aload_n hx hb d_St_patchWith_1 rfl (lv_at hl 1 rfl) ?_
  refine lv_iload_n hx hb d_St_patchWith_2 rfl (lv_at hl 2 rfl) ?_
  have hPc := hP.sub (ws' := [(h, .inr (9, [sk_bytes, sk_from, sk_firstDependency, sk_firstChange, sk_dependencies, .ref hs, .ref bh, sk_leansOn, sk_leantBy, sk_changes, sk_lines, .int (nI P)])), (hs, .inl (cB, 16032, .inl hf)), (bh, .inl (cI, 500, .inl bf)), (p2, .inl (cB, N2, .inl g))]) [0, 1, 2, 3] rfl
  have hDc := hD.sub (ws' := [(h, .inr (9, [sk_bytes, sk_from, sk_firstDependency, sk_firstChange, sk_dependencies, .ref hs, .ref bh, sk_leansOn, sk_leantBy, sk_changes, sk_lines, .int (nI P)])), (hs, .inl (cB, 16032, .inl hf)), (bh, .inl (cI, 500, .inl bf)), (p2, .inl (cB, N2, .inl g))]) [0, 1, 2, 3] (by decide) rfl
  have hFc := va_free (wc := [(h, .inr (9, [sk_bytes, sk_from, sk_firstDependency, sk_firstChange, sk_dependencies, .ref hs, .ref bh, sk_leansOn, sk_leantBy, sk_changes, sk_lines, .int (nI P)])), (hs, .inl (cB, 16032, .inl hf)), (bh, .inl (cI, 500, .inl bf)), (p2, .inl (cB, N2, .inl g))]) hD hS hA [0, 1, 2, 3] rfl
  refine va_calli (va_runV (As := [.ref p2, .int (nI j)]) (rest := []) ⟨hx, hb, hml, hown, hts⟩ (m_St_rank l dC dI cI cB cL cZ cR h hs bh p2 sk_bytes sk_from sk_firstDependency sk_firstChange sk_dependencies sk_leansOn sk_leantBy sk_changes sk_lines P j N2 hf bf g Bh s.heap.size hP5 gB gU.mono hN2 hj) (cwV 2 hts (xg_V gw_820 gw_821 gw_822 gw_3 gw_823) rfl rfl rfl (by decide +kernel) ⟨Nat.le_of_ble_eq_true rfl, Nat.le_of_ble_eq_true rfl⟩) ⟨xw_blind, va_recv hK hPc (ci := 9) (q0 := 0) rfl rfl, fun U hU hW => ⟨rfl, by rw [hU], by rw [hU]; exact hPc, va_K.moved hW.alike hK, hDc.weaken (fun _ _ _ _ => trivial)⟩⟩ rfl rfl hl.1 rfl (lv_room (Nat.le_of_ble_eq_true rfl)) d_St_patchWith_3 ⟨Nat.le_of_ble_eq_true rfl, Nat.le_of_ble_eq_true rfl⟩) hS (fun q _ h => hFc q h) hFc (fun r9 rk t H1 locs ht hvm hw hB hz1 hk1 hS => ?_)
  obtain ⟨hP1, hK1, hD1⟩ := hB
  rw [ht] at hP1
  obtain ⟨hP, hD⟩ := va_join (wr := []) (w1 := [(h, .inr (9, [sk_bytes, sk_from, sk_firstDependency, sk_firstChange, sk_dependencies, .ref hs, .ref bh, sk_leansOn, sk_leantBy, sk_changes, sk_lines, .int (nI P)])), (hs, .inl (cB, 16032, .inl hf)), (bh, .inl (cI, 500, .inl bf)), (p2, .inl (cB, N2, .inl g))]) hP hD [0, 1, 2, 3] [] rfl rfl (by decide) (by decide) hk1 hFc hP1 hD1
  generalize H1 = H at hP hS ⊢
  have hP : va_P (dC, dI) classes [(h, .inr (9, [sk_bytes, sk_from, sk_firstDependency, sk_firstChange, sk_dependencies, .ref hs, .ref bh, sk_leansOn, sk_leantBy, sk_changes, sk_lines, .int (nI P)])), (hs, .inl (cB, 16032, .inl hf)), (bh, .inl (cI, 500, .inl bf)), (p2, .inl (cB, N2, .inl g))] H := hP
  have hD : va_D A [(h, .inr (9, [sk_bytes, sk_from, sk_firstDependency, sk_firstChange, sk_dependencies, .ref hs, .ref bh, sk_leansOn, sk_leantBy, sk_changes, sk_lines, .int (nI P)])), (hs, .inl (cB, 16032, .inl hf)), (bh, .inl (cI, 500, .inl bf)), (p2, .inl (cB, N2, .inl g))] := hD
  obtain ⟨rfl, hrk⟩ := hw
  refine lv_istore_n (lv' := [(3, .int (nI rk)), (0, .ref h), (1, .ref p2), (2, .int (nI j))]) hx hb d_St_patchWith_6 rfl hl (by decide) rfl (fun ls hl => ?_)
  refine lv_iload_n hx hb d_St_patchWith_7 rfl (lv_at hl 0 rfl) ?_
  refine lv_aload_n hx hb d_St_patchWith_8 rfl (lv_at hl 1 rfl) ?_
  refine va_get (D := (dC, dI)) (ci := 9) (v := .int (nI P)) (C := R_St) (T := F_St) (N := 12) hx hb hts i_St hown hK hP 0 rfl rfl 11 (by decide) (hts _ gw_235) (fun _ h9 => h9) rfl d_St_patchWith_9 ?_
  refine lv_icmp_ge (tgt := 36) hx hb d_St_patchWith_12 (by decide) (fun c_12 => ?_) (fun c_12 => ?_)
  · have hr9 : P ≤ rk := (nI_leI (by omega) (by have := hrk.1; omega)).mp c_12
    have hq : ∀ i, i < P → ¬ sq hf (Bh i * 32) 32 = sq g j 32 := fun i hi z => List.lt_irrefl _ (z ▸ (bo_lt _ _ _ _ _).mp (hrk.2.1 i (by omega)))
    refine lv_iconst (v := (-1)) hx hb d_St_patchWith_36 (by decide) ?_
    exact W.iret (v := (-1)) hx hb hr (fun t ht hW => ⟨⟨_, (), rfl, Or.inl ⟨rfl, hq⟩, by rw [ht]; exact hP, va_K.moved hW.alike hK, hD⟩, hS.F ht⟩) hS.2.2 d_St_patchWith_37
  · have hrl : rk < P := by rcases Nat.lt_or_ge rk P with z | z; exact z; exact absurd (nI_le z (by have := hrk.1; omega)) c_12
    obtain ⟨hb1, hb2⟩ := gB rk hrl
    refine lv_aload_n hx hb d_St_patchWith_15 rfl (lv_at hl 1 rfl) ?_
    refine va_get (D := (dC, dI)) (ci := 9) (v := .ref hs) (C := R_St) (T := F_St) (N := 12) hx hb hts i_St hown hK hP 0 rfl rfl 5 (by decide) (hts _ gw_204) (fun _ h9 => h9) rfl d_St_patchWith_16 ?_
    refine lv_aload_n hx hb d_St_patchWith_19 rfl (lv_at hl 1 rfl) ?_
    refine va_get (D := (dC, dI)) (ci := 9) (v := .ref bh) (C := R_St) (T := F_St) (N := 12) hx hb hts i_St hown hK hP 0 rfl rfl 6 (by decide) (hts _ gw_209) (fun _ h9 => h9) rfl d_St_patchWith_20 ?_
    refine lv_iload_n hx hb d_St_patchWith_23 rfl (lv_at hl 0 rfl) ?_
    refine va_iald hx hb hK hP 2 0 rfl rfl (vp_in_nI (by omega) (by omega)) d_St_patchWith_24 ?_
    rw [show (nI rk).toNatClampNeg = rk from nI_clamp (by omega)]
    refine lv_topi (fun x_1 ex_1 => ?_)
    obtain rfl : x_1 = nI (Bh rk) := by rw [ex_1]; first | done | (exact hb1)
    refine lv_bipush (v := 32) hx hb d_St_patchWith_25 (by decide) ?_
    refine lv_imul hx hb d_St_patchWith_27 ?_
    refine lv_topi (fun x_2 ex_2 => ?_)
    obtain rfl : x_2 = nI (Bh rk * 32) := by rw [ex_2]; first | done | (exact nI_mul _ 32)
    refine lv_aload_n hx hb d_St_patchWith_28 rfl (lv_at hl 2 rfl) ?_
    refine lv_iload_n hx hb d_St_patchWith_29 rfl (lv_at hl 3 rfl) ?_
    have hPc := hP.sub (ws' := [(hs, .inl (cB, 16032, .inl hf)), (p2, .inl (cB, N2, .inl g))]) [1, 3] rfl
    have hDc := hD.sub (ws' := [(hs, .inl (cB, 16032, .inl hf)), (p2, .inl (cB, N2, .inl g))]) [1, 3] (by decide) rfl
    have hFc := va_free (wc := [(hs, .inl (cB, 16032, .inl hf)), (p2, .inl (cB, N2, .inl g))]) hD hS hA [1, 3] rfl
    refine va_calli (va_runS (As := [.ref hs, .int (nI (Bh rk * 32)), .ref p2, .int (nI j)]) (rest := []) ⟨hx, hb, hml, hown, hts⟩ (m_St_cmp l dC dI cI cB cL cZ cR hs p2 16032 N2 hf g (Bh rk * 32) j H.size (by decide) hN2 (by omega) (by omega)) ⟨callB_of 4 hts (xg_in gw_780) rfl rfl rfl (hts _ gw_3) (hts _ gw_824) (by decide +kernel) ⟨Nat.le_of_ble_eq_true rfl, Nat.le_of_ble_eq_true rfl⟩, hts _ gw_779⟩ ⟨xw_blind, fun U hU hW => ⟨rfl, by rw [hU], by rw [hU]; exact hPc, va_K.moved hW.alike hK, hDc.weaken (fun _ _ _ _ => trivial)⟩⟩ rfl rfl hl.1 rfl (lv_room (Nat.le_of_ble_eq_true rfl)) d_St_patchWith_30 ⟨Nat.le_of_ble_eq_true rfl, Nat.le_of_ble_eq_true rfl⟩) hS (fun q _ h => hFc q h) hFc (fun r9 u t H1 locs ht hvm hw hB hz1 hk1 hS => ?_)
    obtain ⟨hP1, hK1, hD1⟩ := hB
    rw [ht] at hP1
    obtain ⟨hP, hD⟩ := va_join (wr := [(h, .inr (9, [sk_bytes, sk_from, sk_firstDependency, sk_firstChange, sk_dependencies, .ref hs, .ref bh, sk_leansOn, sk_leantBy, sk_changes, sk_lines, .int (nI P)])), (bh, .inl (cI, 500, .inl bf))]) (w1 := [(hs, .inl (cB, 16032, .inl hf)), (p2, .inl (cB, N2, .inl g))]) hP hD [1, 3] [0, 2] rfl rfl (by decide) (by decide) hk1 hFc hP1 hD1
    generalize H1 = H at hP hS ⊢
    have hP : va_P (dC, dI) classes [(h, .inr (9, [sk_bytes, sk_from, sk_firstDependency, sk_firstChange, sk_dependencies, .ref hs, .ref bh, sk_leansOn, sk_leantBy, sk_changes, sk_lines, .int (nI P)])), (bh, .inl (cI, 500, .inl bf)), (hs, .inl (cB, 16032, .inl hf)), (p2, .inl (cB, N2, .inl g))] H := hP
    have hD : va_D A [(h, .inr (9, [sk_bytes, sk_from, sk_firstDependency, sk_firstChange, sk_dependencies, .ref hs, .ref bh, sk_leansOn, sk_leantBy, sk_changes, sk_lines, .int (nI P)])), (bh, .inl (cI, 500, .inl bf)), (hs, .inl (cB, 16032, .inl hf)), (p2, .inl (cB, N2, .inl g))] := hD
    subst hw
    refine lv_if_eq (tgt := 38) hx hb d_St_patchWith_33 (by decide) (fun c_33 => ?_) (fun c_33 => ?_)
    · refine lv_aload_n hx hb d_St_patchWith_38 rfl (lv_at hl 1 rfl) ?_
      refine va_get (D := (dC, dI)) (ci := 9) (v := .ref bh) (C := R_St) (T := F_St) (N := 12) hx hb hts i_St hown hK hP 0 rfl rfl 6 (by decide) (hts _ gw_209) (fun _ h9 => h9) rfl d_St_patchWith_39 ?_
      refine lv_iload_n hx hb d_St_patchWith_42 rfl (lv_at hl 0 rfl) ?_
      refine va_iald hx hb hK hP 1 0 rfl rfl (vp_in_nI (by omega) (by omega)) d_St_patchWith_43 ?_
      rw [show (nI rk).toNatClampNeg = rk from nI_clamp (by omega)]
      refine lv_topi (fun x_3 ex_3 => ?_)
      obtain rfl : x_3 = nI (Bh rk) := by rw [ex_3]; first | done | (exact hb1)
      have hP := hP.sub (ws' := [(h, .inr (9, [sk_bytes, sk_from, sk_firstDependency, sk_firstChange, sk_dependencies, .ref hs, .ref bh, sk_leansOn, sk_leantBy, sk_changes, sk_lines, .int (nI P)])), (hs, .inl (cB, 16032, .inl hf)), (bh, .inl (cI, 500, .inl bf)), (p2, .inl (cB, N2, .inl g))]) [0, 2, 1, 3] rfl
      have hD := hD.sub (ws' := [(h, .inr (9, [sk_bytes, sk_from, sk_firstDependency, sk_firstChange, sk_dependencies, .ref hs, .ref bh, sk_leansOn, sk_leantBy, sk_changes, sk_lines, .int (nI P)])), (hs, .inl (cB, 16032, .inl hf)), (bh, .inl (cI, 500, .inl bf)), (p2, .inl (cB, N2, .inl g))]) [0, 2, 1, 3] (by decide) rfl
      exact W.iret (v := nI (Bh rk)) hx hb hr (fun t ht hW => ⟨⟨_, (), rfl, Or.inr ⟨rk, hrl, (bo_z _ _ _ _ _).mp c_33, rfl⟩, by rw [ht]; exact hP, va_K.moved hW.alike hK, hD⟩, hS.F ht⟩) hS.2.2 d_St_patchWith_44
    · have hq : ∀ i, i < P → ¬ sq hf (Bh i * 32) 32 = sq g j 32 := by
        intro i hi z
        rcases Nat.lt_trichotomy i rk with q | q | q
        · exact List.lt_irrefl _ (z ▸ (bo_lt _ _ _ _ _).mp (hrk.2.1 i q))
        · exact c_33 ((bo_z _ _ _ _ _).mpr (q ▸ z))
        · exact hrk.2.2 rk (Nat.le_refl _) hrl (gU.zero rk i q hi ((bo_z _ _ _ _ _).mpr z))
      refine lv_iconst (v := (-1)) hx hb d_St_patchWith_36 (by decide) ?_
      have hP := hP.sub (ws' := [(h, .inr (9, [sk_bytes, sk_from, sk_firstDependency, sk_firstChange, sk_dependencies, .ref hs, .ref bh, sk_leansOn, sk_leantBy, sk_changes, sk_lines, .int (nI P)])), (hs, .inl (cB, 16032, .inl hf)), (bh, .inl (cI, 500, .inl bf)), (p2, .inl (cB, N2, .inl g))]) [0, 2, 1, 3] rfl
      have hD := hD.sub (ws' := [(h, .inr (9, [sk_bytes, sk_from, sk_firstDependency, sk_firstChange, sk_dependencies, .ref hs, .ref bh, sk_leansOn, sk_leantBy, sk_changes, sk_lines, .int (nI P)])), (hs, .inl (cB, 16032, .inl hf)), (bh, .inl (cI, 500, .inl bf)), (p2, .inl (cB, N2, .inl g))]) [0, 2, 1, 3] (by decide) rfl
      exact W.iret (v := (-1)) hx hb hr (fun t ht hW => ⟨⟨_, (), rfl, Or.inl ⟨rfl, hq⟩, by rw [ht]; exact hP, va_K.moved hW.alike hK, hD⟩, hS.F ht⟩) hS.2.2 d_St_patchWith_37
set_option maxHeartbeats 4000000 in
set_option maxRecDepth 100000 in
/-- a patch by its hash -/
theorem m_St_patchWiths (l : Launch) (dC : Nat → ClassId) (dI : Nat → Nat → Nat) (cI cB cL cZ cR : ClassId) (h hs bh : Nat) (sk_bytes sk_from sk_firstDependency sk_firstChange sk_dependencies sk_leansOn sk_leantBy sk_changes sk_lines : Value) (P j : Nat) (hf bf : Nat → Int32) (Bh : Nat → Nat) (sz : Nat) (hP5 : P ≤ 500) (gB : ∀ i, i < P → bf i = nI (Bh i) ∧ Bh i ≤ 500) (gU : hs_up hf Bh P) (hj : j + 32 ≤ 16032) : Met l y_St_patchWith ws_St_patchWith ({ frames := 2, cells := 0, slots := 0, locals := 100 }) (xw_Pc dC dI [(cI, .int), (cB, .byte), (cL, .long), (cZ, .boolean), (cR, .object "PatchStore$Repository")] [.ref h, .ref hs, .int (nI j)] [(h, .inr (9, [sk_bytes, sk_from, sk_firstDependency, sk_firstChange, sk_dependencies, .ref hs, .ref bh, sk_leansOn, sk_leantBy, sk_changes, sk_lines, .int (nI P)])), (hs, .inl (cB, 16032, .inl hf)), (bh, .inl (cI, 500, .inl bf))] sz) (va_Qi (fun (r : Int32) (_ : Unit) => pw_ok hf hf Bh P j r) (fun _ t => xw_B dC dI [(cI, .int), (cB, .byte), (cL, .long), (cZ, .boolean), (cR, .object "PatchStore$Repository")] (va_A [(h, .inr (9, [sk_bytes, sk_from, sk_firstDependency, sk_firstChange, sk_dependencies, .ref hs, .ref bh, sk_leansOn, sk_leantBy, sk_changes, sk_lines, .int (nI P)])), (hs, .inl (cB, 16032, .inl hf)), (bh, .inl (cI, 500, .inl bf))] sz) [(h, .inr (9, [sk_bytes, sk_from, sk_firstDependency, sk_firstChange, sk_dependencies, .ref hs, .ref bh, sk_leansOn, sk_leantBy, sk_changes, sk_lines, .int (nI P)])), (hs, .inl (cB, 16032, .inl hf)), (bh, .inl (cI, 500, .inl bf))] t) (va_A [(h, .inr (9, [sk_bytes, sk_from, sk_firstDependency, sk_firstChange, sk_dependencies, .ref hs, .ref bh, sk_leansOn, sk_leantBy, sk_changes, sk_lines, .int (nI P)])), (hs, .inl (cB, 16032, .inl hf)), (bh, .inl (cI, 500, .inl bf))] sz)) 0 0 (va_A [(h, .inr (9, [sk_bytes, sk_from, sk_firstDependency, sk_firstChange, sk_dependencies, .ref hs, .ref bh, sk_leansOn, sk_leantBy, sk_changes, sk_lines, .int (nI P)])), (hs, .inl (cB, 16032, .inl hf)), (bh, .inl (cI, 500, .inl bf))] sz) := by
  refine Met.ofW (cc := prog_10_method_14_code) (maxL := 4) (ret := (Option.some Jvm.ClassFile.FieldType.int)) (by decide) rfl ?_
  intro p e s m args below meth c s₁ B hml hv
  obtain ⟨rfl, hsz, hP, hK, hD0⟩ := hv
  have hx := B.exec
  have hb := B.bytes
  have hr := B.returns
  have hts0 := atoms_spec (ws := ws_St_patchWith) B.pre
  have hts : ∀ w ∈ xg_1, w.before _ s = true := fun w h => hts0 w (List.mem_cons_of_mem _ h)
  have hown : s.vm.findClass "PatchStore$Stock" = some m.cls := findClass_of_methodNamed B.named
  have hlocks := B.notSynchronized
  subst hsz
  have hD := hD0.self (sz := s.heap.size)
  generalize hAe : va_A [(h, .inr (9, [sk_bytes, sk_from, sk_firstDependency, sk_firstChange, sk_dependencies, .ref hs, .ref bh, sk_leansOn, sk_leantBy, sk_changes, sk_lines, .int (nI P)])), (hs, .inl (cB, 16032, .inl hf)), (bh, .inl (cI, 500, .inl bf))] s.heap.size = A at hD ⊢
  have hA : ∀ q : Nat, s.heap.size ≤ q → A q := fun q h => by rw [← hAe]; exact Or.inr h
  have hS : va_S A s.heap s.heap [] := va_S.rf
  have hl := lv_entry ([.ref h, .ref hs, .int (nI j)]) (n := 4) (Nat.le_of_ble_eq_true rfl)
  rw [lg_entry_eq]
  generalize (lg_sl ([.ref h, .ref hs, .int (nI j)]) ++ List.replicate (4 - (lg_sl ([.ref h, .ref hs, .int (nI j)])).length) Slot.unset).toArray = ls at hl ⊢
  have hl : lv_has ls 4 [(0, .ref h), (1, .ref hs), (2, .int (nI j))] := hl
  refine lv_aload_n hx hb d_St_patchWith_0 rfl (lv_at hl 0 rfl) ?_
  refine lv_aload_n hx hb d_St_patchWith_1 rfl (lv_at hl 1 rfl) ?_
  refine lv_iload_n hx hb d_St_patchWith_2 rfl (lv_at hl 2 rfl) ?_
  have hPc := hP.sub (ws' := [(h, .inr (9, [sk_bytes, sk_from, sk_firstDependency, sk_firstChange, sk_dependencies, .ref hs, .ref bh, sk_leansOn, sk_leantBy, sk_changes, sk_lines, .int (nI P)])), (hs, .inl (cB, 16032, .inl hf)), (bh, .inl (cI, 500, .inl bf))]) [0, 1, 2] rfl
  have hDc := hD.sub (ws' := [(h, .inr (9, [sk_bytes, sk_from, sk_firstDependency, sk_firstChange, sk_dependencies, .ref hs, .ref bh, sk_leansOn, sk_leantBy, sk_changes, sk_lines, .int (nI P)])), (hs, .inl (cB, 16032, .inl hf)), (bh, .inl (cI, 500, .inl bf))]) [0, 1, 2] (by decide) rfl
  have hFc := va_free (wc := [(h, .inr (9, [sk_bytes, sk_from, sk_firstDependency, sk_firstChange, sk_dependencies, .ref hs, .ref bh, sk_leansOn, sk_leantBy, sk_changes, sk_lines, .int (nI P)])), (hs, .inl (cB, 16032, .inl hf)), (bh, .inl (cI, 500, .inl bf))]) hD hS hA [0, 1, 2] rfl
  refine va_calli (va_runV (As := [.ref hs, .int (nI j)]) (rest := []) ⟨hx, hb, hml, hown, hts⟩ (m_St_ranks l dC dI cI cB cL cZ cR h hs bh sk_bytes sk_from sk_firstDependency sk_firstChange sk_dependencies sk_leansOn sk_leantBy sk_changes sk_lines P j hf bf Bh s.heap.size hP5 gB gU.mono hj) (cwV 2 hts (xg_V gw_820 gw_821 gw_822 gw_3 gw_823) rfl rfl rfl (by decide +kernel) ⟨Nat.le_of_ble_eq_true rfl, Nat.le_of_ble_eq_true rfl⟩) ⟨xw_blind, va_recv hK hPc (ci := 9) (q0 := 0) rfl rfl, fun U hU hW => ⟨rfl, by rw [hU], by rw [hU]; exact hPc, va_K.moved hW.alike hK, hDc.weaken (fun _ _ _ _ => trivial)⟩⟩ rfl rfl hl.1 rfl (lv_room (Nat.le_of_ble_eq_true rfl)) d_St_patchWith_3 ⟨Nat.le_of_ble_eq_true rfl, Nat.le_of_ble_eq_true rfl⟩) hS (fun q _ h => hFc q h) hFc (fun r9 rk t H1 locs ht hvm hw hB hz1 hk1 hS => ?_)
  obtain ⟨hP1, hK1, hD1⟩ := hB
  rw [ht] at hP1
  obtain ⟨hP, hD⟩ := va_join (wr := []) (w1 := [(h, .inr (9, [sk_bytes, sk_from, sk_firstDependency, sk_firstChange, sk_dependencies, .ref hs, .ref bh, sk_leansOn, sk_leantBy, sk_changes, sk_lines, .int (nI P)])), (hs, .inl (cB, 16032, .inl hf)), (bh, .inl (cI, 500, .inl bf))]) hP hD [0, 1, 2] [] rfl rfl (by decide) (by decide) hk1 hFc hP1 hD1
  generalize H1 = H at hP hS ⊢
  have hP : va_P (dC, dI) classes [(h, .inr (9, [sk_bytes, sk_from, sk_firstDependency, sk_firstChange, sk_dependencies, .ref hs, .ref bh, sk_leansOn, sk_leantBy, sk_changes, sk_lines, .int (nI P)])), (hs, .inl (cB, 16032, .inl hf)), (bh, .inl (cI, 500, .inl bf))] H := hP
  have hD : va_D A [(h, .inr (9, [sk_bytes, sk_from, sk_firstDependency, sk_firstChange, sk_dependencies, .ref hs, .ref bh, sk_leansOn, sk_leantBy, sk_changes, sk_lines, .int (nI P)])), (hs, .inl (cB, 16032, .inl hf)), (bh, .inl (cI, 500, .inl bf))] := hD
  obtain ⟨rfl, hrk⟩ := hw
  refine lv_istore_n (lv' := [(3, .int (nI rk)), (0, .ref h), (1, .ref hs), (2, .int (nI j))]) hx hb d_St_patchWith_6 rfl hl (by decide) rfl (fun ls hl => ?_)
  refine lv_iload_n hx hb d_St_patchWith_7 rfl (lv_at hl 0 rfl) ?_
  refine lv_aload_n hx hb d_St_patchWith_8 rfl (lv_at hl 1 rfl) ?_
  refine va_get (D := (dC, dI)) (ci := 9) (v := .int (nI P)) (C := R_St) (T := F_St) (N := 12) hx hb hts i_St hown hK hP 0 rfl rfl 11 (by decide) (hts _ gw_235) (fun _ h9 => h9) rfl d_St_patchWith_9 ?_
  refine lv_icmp_ge (tgt := 36) hx hb d_St_patchWith_12 (by decide) (fun c_12 => ?_) (fun c_12 => ?_)
  · have hr9 : P ≤ rk := (nI_leI (by omega) (by have := hrk.1; omega)).mp c_12
    have hq : ∀ i, i < P → ¬ sq hf (Bh i * 32) 32 = sq hf j 32 := fun i hi z => List.lt_irrefl _ (z ▸ (bo_lt _ _ _ _ _).mp (hrk.2.1 i (by omega)))
    refine lv_iconst (v := (-1)) hx hb d_St_patchWith_36 (by decide) ?_
    exact W.iret (v := (-1)) hx hb hr (fun t ht hW => ⟨⟨_, (), rfl, Or.inl ⟨rfl, hq⟩, by rw [ht]; exact hP, va_K.moved hW.alike hK, hD⟩, hS.F ht⟩) hS.2.2 d_St_patchWith_37
  · have hrl : rk < P := by rcases Nat.lt_or_ge rk P with z | z; exact z; exact absurd (nI_le z (by have := hrk.1; omega)) c_12
    obtain ⟨hb1, hb2⟩ := gB rk hrl
    refine lv_aload_n hx hb d_St_patchWith_15 rfl (lv_at hl 1 rfl) ?_
    refine va_get (D := (dC, dI)) (ci := 9) (v := .ref hs) (C := R_St) (T := F_St) (N := 12) hx hb hts i_St hown hK hP 0 rfl rfl 5 (by decide) (hts _ gw_204) (fun _ h9 => h9) rfl d_St_patchWith_16 ?_
    refine lv_aload_n hx hb d_St_patchWith_19 rfl (lv_at hl 1 rfl) ?_
    refine va_get (D := (dC, dI)) (ci := 9) (v := .ref bh) (C := R_St) (T := F_St) (N := 12) hx hb hts i_St hown hK hP 0 rfl rfl 6 (by decide) (hts _ gw_209) (fun _ h9 => h9) rfl d_St_patchWith_20 ?_
    refine lv_iload_n hx hb d_St_patchWith_23 rfl (lv_at hl 0 rfl) ?_
    refine va_iald hx hb hK hP 2 0 rfl rfl (vp_in_nI (by omega) (by omega)) d_St_patchWith_24 ?_
    rw [show (nI rk).toNatClampNeg = rk from nI_clamp (by omega)]
    refine lv_topi (fun x_1 ex_1 => ?_)
    obtain rfl : x_1 = nI (Bh rk) := by rw [ex_1]; first | done | (exact hb1)
    refine lv_bipush (v := 32) hx hb d_St_patchWith_25 (by decide) ?_
    refine lv_imul hx hb d_St_patchWith_27 ?_
    refine lv_topi (fun x_2 ex_2 => ?_)
    obtain rfl : x_2 = nI (Bh rk * 32) := by rw [ex_2]; first | done | (exact nI_mul _ 32)
    refine lv_aload_n hx hb d_St_patchWith_28 rfl (lv_at hl 2 rfl) ?_
    refine lv_iload_n hx hb d_St_patchWith_29 rfl (lv_at hl 3 rfl) ?_
    have hPc := hP.sub (ws' := [(hs, .inl (cB, 16032, .inl hf))]) [1] rfl
    have hDc := hD.sub (ws' := [(hs, .inl (cB, 16032, .inl hf))]) [1] (by decide) rfl
    have hFc := va_free (wc := [(hs, .inl (cB, 16032, .inl hf))]) hD hS hA [1] rfl
    refine va_calli (va_runS (As := [.ref hs, .int (nI (Bh rk * 32)), .ref hs, .int (nI j)]) (rest := []) ⟨hx, hb, hml, hown, hts⟩ (m_St_cmps l dC dI cI cB cL cZ cR hs 16032 hf (Bh rk * 32) j H.size (by decide) (by omega) (by omega)) ⟨callB_of 4 hts (xg_in gw_780) rfl rfl rfl (hts _ gw_3) (hts _ gw_824) (by decide +kernel) ⟨Nat.le_of_ble_eq_true rfl, Nat.le_of_ble_eq_true rfl⟩, hts _ gw_779⟩ ⟨xw_blind, fun U hU hW => ⟨rfl, by rw [hU], by rw [hU]; exact hPc, va_K.moved hW.alike hK, hDc.weaken (fun _ _ _ _ => trivial)⟩⟩ rfl rfl hl.1 rfl (lv_room (Nat.le_of_ble_eq_true rfl)) d_St_patchWith_30 ⟨Nat.le_of_ble_eq_true rfl, Nat.le_of_ble_eq_true rfl⟩) hS (fun q _ h => hFc q h) hFc (fun r9 u t H1 locs ht hvm hw hB hz1 hk1 hS => ?_)
    obtain ⟨hP1, hK1, hD1⟩ := hB
    rw [ht] at hP1
    obtain ⟨hP, hD⟩ := va_join (wr := [(h, .inr (9, [sk_bytes, sk_from, sk_firstDependency, sk_firstChange, sk_dependencies, .ref hs, .ref bh, sk_leansOn, sk_leantBy, sk_changes, sk_lines, .int (nI P)])), (bh, .inl (cI, 500, .inl bf))]) (w1 := [(hs, .inl (cB, 16032, .inl hf))]) hP hD [1] [0, 2] rfl rfl (by decide) (by decide) hk1 hFc hP1 hD1
    generalize H1 = H at hP hS ⊢
    have hP : va_P (dC, dI) classes [(h, .inr (9, [sk_bytes, sk_from, sk_firstDependency, sk_firstChange, sk_dependencies, .ref hs, .ref bh, sk_leansOn, sk_leantBy, sk_changes, sk_lines, .int (nI P)])), (bh, .inl (cI, 500, .inl bf)), (hs, .inl (cB, 16032, .inl hf))] H := hP
    have hD : va_D A [(h, .inr (9, [sk_bytes, sk_from, sk_firstDependency, sk_firstChange, sk_dependencies, .ref hs, .ref bh, sk_leansOn, sk_leantBy, sk_changes, sk_lines, .int (nI P)])), (bh, .inl (cI, 500, .inl bf)), (hs, .inl (cB, 16032, .inl hf))] := hD
    subst hw
    refine lv_if_eq (tgt := 38) hx hb d_St_patchWith_33 (by decide) (fun c_33 => ?_) (fun c_33 => ?_)
    · refine lv_aload_n hx hb d_St_patchWith_38 rfl (lv_at hl 1 rfl) ?_
      refine va_get (D := (dC, dI)) (ci := 9) (v := .ref bh) (C := R_St) (T := F_St) (N := 12) hx hb hts i_St hown hK hP 0 rfl rfl 6 (by decide) (hts _ gw_209) (fun _ h9 => h9) rfl d_St_patchWith_39 ?_
      refine lv_iload_n hx hb d_St_patchWith_42 rfl (lv_at hl 0 rfl) ?_
      refine va_iald hx hb hK hP 1 0 rfl rfl (vp_in_nI (by omega) (by omega)) d_St_patchWith_43 ?_
      rw [show (nI rk).toNatClampNeg = rk from nI_clamp (by omega)]
      refine lv_topi (fun x_3 ex_3 => ?_)
      obtain rfl : x_3 = nI (Bh rk) := by rw [ex_3]; first | done | (exact hb1)
      have hP := hP.sub (ws' := [(h, .inr (9, [sk_bytes, sk_from, sk_firstDependency, sk_firstChange, sk_dependencies, .ref hs, .ref bh, sk_leansOn, sk_leantBy, sk_changes, sk_lines, .int (nI P)])), (hs, .inl (cB, 16032, .inl hf)), (bh, .inl (cI, 500, .inl bf))]) [0, 2, 1] rfl
      have hD := hD.sub (ws' := [(h, .inr (9, [sk_bytes, sk_from, sk_firstDependency, sk_firstChange, sk_dependencies, .ref hs, .ref bh, sk_leansOn, sk_leantBy, sk_changes, sk_lines, .int (nI P)])), (hs, .inl (cB, 16032, .inl hf)), (bh, .inl (cI, 500, .inl bf))]) [0, 2, 1] (by decide) rfl
      exact W.iret (v := nI (Bh rk)) hx hb hr (fun t ht hW => ⟨⟨_, (), rfl, Or.inr ⟨rk, hrl, (bo_z _ _ _ _ _).mp c_33, rfl⟩, by rw [ht]; exact hP, va_K.moved hW.alike hK, hD⟩, hS.F ht⟩) hS.2.2 d_St_patchWith_44
    · have hq : ∀ i, i < P → ¬ sq hf (Bh i * 32) 32 = sq hf j 32 := by
        intro i hi z
        rcases Nat.lt_trichotomy i rk with q | q | q
        · exact List.lt_irrefl _ (z ▸ (bo_lt _ _ _ _ _).mp (hrk.2.1 i q))
        · exact c_33 ((bo_z _ _ _ _ _).mpr (q ▸ z))
        · exact hrk.2.2 rk (Nat.le_refl _) hrl (gU.zero rk i q hi ((bo_z _ _ _ _ _).mpr z))
      refine lv_iconst (v := (-1)) hx hb d_St_patchWith_36 (by decide) ?_
      have hP := hP.sub (ws' := [(h, .inr (9, [sk_bytes, sk_from, sk_firstDependency, sk_firstChange, sk_dependencies, .ref hs, .ref bh, sk_leansOn, sk_leantBy, sk_changes, sk_lines, .int (nI P)])), (hs, .inl (cB, 16032, .inl hf)), (bh, .inl (cI, 500, .inl bf))]) [0, 2, 1] rfl
      have hD := hD.sub (ws' := [(h, .inr (9, [sk_bytes, sk_from, sk_firstDependency, sk_firstChange, sk_dependencies, .ref hs, .ref bh, sk_leansOn, sk_leantBy, sk_changes, sk_lines, .int (nI P)])), (hs, .inl (cB, 16032, .inl hf)), (bh, .inl (cI, 500, .inl bf))]) [0, 2, 1] (by decide) rfl
      exact W.iret (v := (-1)) hx hb hr (fun t ht hW => ⟨⟨_, (), rfl, Or.inl ⟨rfl, hq⟩, by rw [ht]; exact hP, va_K.moved hW.alike hK, hD⟩, hS.F ht⟩) hS.2.2 d_St_patchWith_37
