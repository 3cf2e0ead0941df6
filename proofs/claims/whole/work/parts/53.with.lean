section
/-! 53.with.lean.txt -/
theorem gw_820 : (Jvm.Cond.methodLink "PatchStore$Stock" (109 : Nat) ({ cls := "PatchStore$Stock", name := "rankOf", desc := "([BI)I" } : Jvm.MethodName)) ∈ xg_1 := xg_s4 100 rfl rfl
theorem gw_821 : (Jvm.Cond.instanceMethod ({ cls := "PatchStore$Stock", name := "rankOf", desc := "([BI)I" } : Jvm.MethodName)) ∈ xg_1 := xg_s4 101 rfl rfl
theorem gw_822 : (Jvm.Cond.selects "PatchStore$Stock" ({ cls := "PatchStore$Stock", name := "rankOf", desc := "([BI)I" } : Jvm.MethodName) ({ cls := "PatchStore$Stock", name := "rankOf", desc := "([BI)I" } : Jvm.MethodName)) ∈ xg_1 := xg_s4 102 rfl rfl
theorem gw_823 : (Jvm.Cond.code ({ cls := "PatchStore$Stock", name := "rankOf", desc := "([BI)I" } : Jvm.MethodName) prog_10_method_13_code (7 : Nat) (Option.some Jvm.ClassFile.FieldType.int)) ∈ xg_1 := xg_s4 103 rfl rfl
def y_St_patchWith : MethodName := ⟨"PatchStore$Stock", "patchWith", "([BI)I"⟩
abbrev c_St_patchWith : Cond := (Jvm.Cond.code ({ cls := "PatchStore$Stock", name := "patchWith", desc := "([BI)I" } : Jvm.MethodName) prog_10_method_14_code (4 : Nat) (Option.some Jvm.ClassFile.FieldType.int))
abbrev ws_St_patchWith : List Cond := c_St_patchWith :: xg_1
theorem d_St_patchWith_0 : decode prog_10_method_14_code 0 = .ok (.aload_n 0, 1) := by decide +kernel
theorem d_St_patchWith_1 : decode prog_10_method_14_code 1 = .ok (.aload_n 1, 1) := by decide +kernel
theorem d_St_patchWith_2 : decode prog_10_method_14_code 2 = .ok (.iload_n 2, 1) := by decide +kernel
theorem d_St_patchWith_3 : decode prog_10_method_14_code 3 = .ok (.invokevirtual 109, 3) := by decide +kernel
theorem d_St_patchWith_6 : decode prog_10_method_14_code 6 = .ok (.istore_n 3, 1) := by decide +kernel
theorem d_St_patchWith_7 : decode prog_10_method_14_code 7 = .ok (.iload_n 3, 1) := by decide +kernel
theorem d_St_patchWith_8 : decode prog_10_method_14_code 8 = .ok (.aload_n 0, 1) := by decide +kernel
theorem d_St_patchWith_9 : decode prog_10_method_14_code 9 = .ok (.getfield 56, 3) := by decide +kernel
theorem d_St_patchWith_12 : decode prog_10_method_14_code 12 = .ok (.if_icmp .ge 24, 3) := by decide +kernel
theorem d_St_patchWith_15 : decode prog_10_method_14_code 15 = .ok (.aload_n 0, 1) := by decide +kernel
theorem d_St_patchWith_16 : decode prog_10_method_14_code 16 = .ok (.getfield 29, 3) := by decide +kernel
theorem d_St_patchWith_19 : decode prog_10_method_14_code 19 = .ok (.aload_n 0, 1) := by decide +kernel
theorem d_St_patchWith_20 : decode prog_10_method_14_code 20 = .ok (.getfield 32, 3) := by decide +kernel
theorem d_St_patchWith_23 : decode prog_10_method_14_code 23 = .ok (.iload_n 3, 1) := by decide +kernel
theorem d_St_patchWith_24 : decode prog_10_method_14_code 24 = .ok (.iaload, 1) := by decide +kernel
theorem d_St_patchWith_25 : decode prog_10_method_14_code 25 = .ok (.bipush 32, 2) := by decide +kernel
theorem d_St_patchWith_27 : decode prog_10_method_14_code 27 = .ok (.imul, 1) := by decide +kernel
theorem d_St_patchWith_28 : decode prog_10_method_14_code 28 = .ok (.aload_n 1, 1) := by decide +kernel
theorem d_St_patchWith_29 : decode prog_10_method_14_code 29 = .ok (.iload_n 2, 1) := by decide +kernel
theorem d_St_patchWith_30 : decode prog_10_method_14_code 30 = .ok (.invokestatic 105, 3) := by decide +kernel
theorem d_St_patchWith_33 : decode prog_10_method_14_code 33 = .ok (.ifCond .eq 5, 3) := by decide +kernel
theorem d_St_patchWith_36 : decode prog_10_method_14_code 36 = .ok (.iconst (-1), 1) := by decide +kernel
theorem d_St_patchWith_37 : decode prog_10_method_14_code 37 = .ok (.ireturn, 1) := by decide +kernel
theorem d_St_patchWith_38 : decode prog_10_method_14_code 38 = .ok (.aload_n 0, 1) := by decide +kernel
theorem d_St_patchWith_39 : decode prog_10_method_14_code 39 = .ok (.getfield 32, 3) := by decide +kernel
theorem d_St_patchWith_42 : decode prog_10_method_14_code 42 = .ok (.iload_n 3, 1) := by decide +kernel
theorem d_St_patchWith_43 : decode prog_10_method_14_code 43 = .ok (.iaload, 1) := by decide +kernel
theorem d_St_patchWith_44 : decode prog_10_method_14_code 44 = .ok (.ireturn, 1) := by decide +kernel
/-- n bytes as numbers -/
def sq (f : Nat → Int32) : Nat → Nat → List Nat
  | _, 0 => []
  | i, n + 1 => b8 (f i) :: sq f (i + 1) n
theorem nI_sub_toInt {a b : Nat} (ha : a < 256) (hb : b < 256) : (nI a - nI b).toInt = (a : Int) - b := by
  rw [Int32.toInt_sub, nI_toInt (by omega), nI_toInt (by omega)]
  rw [Int.bmod_eq_of_le] <;> omega
theorem nI_sub_z {a b : Nat} (ha : a < 256) (hb : b < 256) : nI a - nI b = 0 ↔ a = b := by
  rw [← Int32.toInt_inj, nI_sub_toInt ha hb, show (0 : Int32).toInt = 0 from rfl]; omega
theorem nI_sub_lt {a b : Nat} (ha : a < 256) (hb : b < 256) : nI a - nI b < 0 ↔ a < b := by
  rw [Int32.lt_iff_toInt_lt, nI_sub_toInt ha hb, show (0 : Int32).toInt = 0 from rfl]; omega
theorem bo_z (f g : Nat → Int32) : ∀ n i j : Nat, bo f g i j n = 0 ↔ sq f i n = sq g j n
  | 0, _, _ => ⟨fun _ => rfl, fun _ => rfl⟩
  | n + 1, i, j => by
    rw [bo_s]
    have hz := nI_sub_z (b8_lt (f i)) (b8_lt (g j))
    show _ ↔ b8 (f i) :: sq f (i + 1) n = b8 (g j) :: sq g (j + 1) n
    rw [List.cons_eq_cons]
    by_cases h : nI (b8 (f i)) - nI (b8 (g j)) = 0
    · rw [if_pos h, bo_z f g n (i + 1) (j + 1)]
      exact ⟨fun q => ⟨hz.mp h, q⟩, fun q => q.2⟩
    · rw [if_neg h]
      exact ⟨fun q => absurd q h, fun q => absurd (hz.mpr q.1) h⟩
theorem bo_lt (f g : Nat → Int32) : ∀ n i j : Nat, bo f g i j n < 0 ↔ sq f i n < sq g j n
  | 0, _, _ => ⟨fun h => absurd h (by show ¬ (0 : Int32) < 0; decide), fun h => absurd h (List.lt_irrefl _)⟩
  | n + 1, i, j => by
    rw [bo_s]
    have hz := nI_sub_z (b8_lt (f i)) (b8_lt (g j))
    have hl := nI_sub_lt (b8_lt (f i)) (b8_lt (g j))
    show _ ↔ b8 (f i) :: sq f (i + 1) n < b8 (g j) :: sq g (j + 1) n
    rw [List.cons_lt_cons_iff]
    by_cases h : nI (b8 (f i)) - nI (b8 (g j)) = 0
    · rw [if_pos h, bo_lt f g n (i + 1) (j + 1)]
      have := hz.mp h
      exact ⟨fun q => Or.inr ⟨this, q⟩, fun q => q.elim (fun z => by omega) (fun z => z.2)⟩
    · rw [if_neg h, hl]
      exact ⟨Or.inl, fun q => q.elim id (fun z => absurd (hz.mpr z.1) h)⟩
/-- the patches by hash: Bh goes through P patches, their hashes rise -/
def hs_up (hf : Nat → Int32) (Bh : Nat → Nat) (P : Nat) : Prop := ∀ i k, i < k → k < P → sq hf (Bh i * 32) 32 < sq hf (Bh k * 32) 32
theorem hs_up.mono {hf g : Nat → Int32} {Bh : Nat → Nat} {P j : Nat} (h : hs_up hf Bh P) : ∀ i k, i ≤ k → k < P → hsl hf g Bh j k → hsl hf g Bh j i := by
  intro i k h1 h2 h3
  rcases Nat.eq_or_lt_of_le h1 with rfl | h4
  · exact h3
  · exact (bo_lt _ _ _ _ _).mpr (List.lt_trans (h i k h4 h2) ((bo_lt _ _ _ _ _).mp h3))
theorem hs_up.zero {hf g : Nat → Int32} {Bh : Nat → Nat} {P j : Nat} (h : hs_up hf Bh P) : ∀ i k, i < k → k < P → bo hf g (Bh k * 32) j 32 = 0 → hsl hf g Bh j i := by
  intro i k h1 h2 h3
  refine (bo_lt _ _ _ _ _).mpr ?_
  rw [← (bo_z _ _ _ _ _).mp h3]
  exact h i k h1 h2
/-- a patch with the hash at j, or none -/
def pw_ok (hf g : Nat → Int32) (Bh : Nat → Nat) (P j : Nat) (r : Int32) : Prop := (r = -1 ∧ ∀ i, i < P → ¬ sq hf (Bh i * 32) 32 = sq g j 32) ∨ ∃ i, i < P ∧ sq hf (Bh i * 32) 32 = sq g j 32 ∧ r = nI (Bh i)
set_option maxHeartbeats 4000000 in
set_option maxRecDepth 100000 in
/-- a patch by its hash -/
theorem m_St_patchWith (l : Launch) (dC : Nat → ClassId) (dI : Nat → Nat → Nat) (cI cB cL cZ cR : ClassId) (h hs bh p2 : Nat) (sk_bytes sk_from sk_firstDependency sk_firstChange sk_dependencies sk_leansOn sk_leantBy sk_changes sk_lines : Value) (P j N2 : Nat) (hf bf g : Nat → Int32) (Bh : Nat → Nat) (sz : Nat) (hP5 : P ≤ 500) (gB : ∀ i, i < P → bf i = nI (Bh i) ∧ Bh i ≤ 500) (gU : hs_up hf Bh P) (hN2 : N2 < 2 ^ 31) (hj : j + 32 ≤ N2) : Met l y_St_patchWith ws_St_patchWith ({ frames := 2, cells := 0, slots := 0, locals := 100 }) (xw_Pc dC dI [(cI, .int), (cB, .byte), (cL, .long), (cZ, .boolean), (cR, .object "PatchStore$Repository")] [.ref h, .ref p2, .int (nI j)] [(h, .inr (9, [sk_bytes, sk_from, sk_firstDependency, sk_firstChange, sk_dependencies, .ref hs, .ref bh, sk_leansOn, sk_leantBy, sk_changes, sk_lines, .int (nI P)])), (hs, .inl (cB, 16032, .inl hf)), (bh, .inl (cI, 500, .inl bf)), (p2, .inl (cB, N2, .inl g))] sz) (va_Qi (fun (r : Int32) (_ : Unit) => pw_ok hf g Bh P j r) (fun _ t => xw_B dC dI [(cI, .int), (cB, .byte), (cL, .long), (cZ, .boolean), (cR, .object "PatchStore$Repository")] (va_A [(h, .inr (9, [sk_bytes, sk_from, sk_firstDependency, sk_firstChange, sk_dependencies, .ref hs, .ref bh, sk_leansOn, sk_leantBy, sk_changes, sk_lines, .int (nI P)])), (hs, .inl (cB, 16032, .inl hf)), (bh, .inl (cI, 500, .inl bf)), (p2, .inl (cB, N2, .inl g))] sz) [(h, .inr (9, [sk_bytes, sk_from, sk_firstDependency, sk_firstChange, sk_dependencies, .ref hs, .ref bh, sk_leansOn, sk_leantBy, sk_changes, sk_lines, .int (nI P)])), (hs, .inl (cB, 16032, .inl hf)), (bh, .inl (cI, 500, .inl bf)), (p2, .inl (cB, N2, .inl g))] t) (va_A [(h, .inr (9, [sk_bytes, sk_from, sk_firstDependency, sk_firstChange, sk_dependencies, .ref hs, .ref bh, sk_leansOn, sk_leantBy, sk_changes, sk_lines, .int (nI P)])), (hs, .inl (cB, 16032, .inl hf)), (bh, .inl (cI, 500, .inl bf)), (p2, .inl (cB, N2, .inl g))] sz)) 0 0 (va_A [(h, .inr (9, [sk_bytes, sk_from, sk_firstDependency, sk_firstChange, sk_dependencies, .ref hs, .ref bh, sk_leansOn, sk_leantBy, sk_changes, sk_lines, .int (nI P)])), (hs, .inl (cB, 16032, .inl hf)), (bh, .inl (cI, 500, .inl bf)), (p2, .inl (cB, N2, .inl g))] sz) := by
  refine Met.ofW (cc := prog_10_method_14_code) (maxL := 4) (ret := (Option.some Jvm.ClassFile.FieldType.int)) (by decide) rfl ?_
  intro p e s m args below meth c s₁ B hml hv
  obtain ⟨rfl, hsz, hP, hK, hD0⟩ := hv
  have hx := B.exec
  have hb := B.bytes
  have hr := B.returns
  have hts0 := atoms_spec (ws := ws_St_patchWith) B.pre
  have hts : ∀ w ∈ xg_1, w.before _ s = true := fun w h => hts0 w (List.mem_cons_of_mem _ h)
  have hown : s.vm.findClass "PatchStore$Stock" = some m.cls := findClass_of_methodNamed B.named
  have hlocks := B.notSynchronized
  subst hsz
  have hD := hD0.self (sz := s.heap.size)
  generalize hAe : va_A [(h, .inr (9, [sk_bytes, sk_from, sk_firstDependency, sk_firstChange, sk_dependencies, .ref hs, .ref bh, sk_leansOn, sk_leantBy, sk_changes, sk_lines, .int (nI P)])), (hs, .inl (cB, 16032, .inl hf)), (bh, .inl (cI, 500, .inl bf)), (p2, .inl (cB, N2, .inl g))] s.heap.size = A at hD ⊢
  have hA : ∀ q : Nat, s.heap.size ≤ q → A q := fun q h => by rw [← hAe]; exact Or.inr h
  have hS : va_S A s.heap s.heap [] := va_S.rf
  have hl := lv_entry ([.ref h, .ref p2, .int (nI j)]) (n := 4) (Nat.le_of_ble_eq_true rfl)
  rw [lg_entry_eq]
  generalize (lg_sl ([.ref h, .ref p2, .int (nI j)]) ++ List.replicate (4 - (lg_sl ([.ref h, .ref p2, .int (nI j)])).length) Slot.unset).toArray = ls at hl ⊢
  have hl : lv_has ls 4 [(0, .ref h), (1, .ref p2), (2, .int (nI j))] := hl
  refine lv_aload_n hx hb d_St_patchWith_0 rfl (lv_at hl 0 rfl) ?_
  refine lv_aload_n hx hb d_St_patchWith_1 rfl (lv_at hl 1 rfl) ?_
  refine lv_iload_n hx hb d_St_patchWith_2 rfl (lv_at hl 2 rfl) ?_
  have hPc := hP.sub (ws' := [(h, .inr (9, [sk_bytes, sk_from, sk_firstDependency, sk_firstChange, sk_dependencies, .ref hs, .ref bh, sk_leansOn, sk_leantBy, sk_changes, sk_lines, .int (nI P)])), (hs, .inl (cB, 16032, .inl hf)), (bh, .inl (cI, 500, .inl bf)), (p2, .inl (cB, N2, .inl g))]) [0, 1, 2, 3] rfl
  have hDc := hD.sub (ws' := [(h, .inr (9, [sk_bytes, sk_from, sk_firstDependency, sk_firstChange, sk_dependencies, .ref hs, .ref bh, sk_leansOn, sk_leantBy, sk_changes, sk_lines, .int (nI P)])), (hs, .inl (cB, 16032, .inl hf)), (bh, .inl (cI, 500, .inl bf)), (p2, .inl (cB, N2, .inl g))]) [0, 1, 2, 3] (by decide) rfl
  have hFc := va_free (wc := [(h, .inr (9, [sk_bytes, sk_from, sk_firstDependency, sk_firstChange, sk_dependencies, .ref hs, .ref bh, sk_leansOn, sk_leantBy, sk_changes, sk_lines, .int (nI P)])), (hs, .inl (cB, 16032, .inl hf)), (bh, .inl (cI, 500, .inl bf)), (p2, .inl (cB, N2, .inl g))]) hD hS hA [0, 1, 2, 3] rfl
  refine va_calli (va_runV (As := [.ref p2, .int (nI j)]) (rest := []) ⟨hx, hb, hml, hown, hts⟩ (m_St_rank l dC dI cI cB cL cZ cR h hs bh p2 sk_bytes sk_from sk_firstDependency sk_firstChange sk_dependencies sk_leansOn sk_leantBy sk_changes sk_lines P j N2 hf bf g Bh s.heap.size hP5 gB gU.mono hN2 hj) (cwV 2 hts (xg_V gw_820 gw_821 gw_822 gw_3 gw_823) rfl rfl rfl (by decide +kernel) ⟨Nat.le_of_ble_eq_true rfl, Nat.le_of_ble_eq_true rfl⟩) ⟨xw_blind, va_recv hK hPc (ci := 9) (q0 := 0) rfl rfl, fun U hU hW => ⟨rfl, by rw [hU], by rw [hU]; exact hPc, va_K.moved hW.alike hK, hDc.weaken (fun _ _ _ _ => trivial)⟩⟩ rfl rfl hl.1 rfl (lv_room (Nat.le_of_ble_eq_true rfl)) d_St_patchWith_3 ⟨Nat.le_of_ble_eq_true rfl, Nat.le_of_ble_eq_true rfl⟩) hS (fun q _ h => hFc q h) hFc (fun r9 rk t H1 locs ht hvm hw hB hz1 hk1 hS => ?_)
  obtain ⟨hP1, hK1, hD1⟩ := hB
  rw [ht] at hP1
  obtain ⟨hP, hD⟩ := va_join (wr := []) (w1 := [(h, .inr (9, [sk_bytes, sk_from, sk_firstDependency, sk_firstChange, sk_dependencies, .ref hs, .ref bh, sk_leansOn, sk_leantBy, sk_changes, sk_lines, .int (nI P)])), (hs, .inl (cB, 16032, .inl hf)), (bh, .inl (cI, 500, .inl bf)), (p2, .inl (cB, N2, .inl g))]) hP hD [0, 1, 2, 3] [] rfl rfl (by decide) (by decide) hk1 hFc hP1 hD1
  generalize H1 = H at hP hS ⊢
  have hP : va_P (dC, dI) classes [(h, .inr (9, [sk_bytes, sk_from, sk_firstDependency, sk_firstChange, sk_dependencies, .ref hs, .ref bh, sk_leansOn, sk_leantBy, sk_changes, sk_lines, .int (nI P)])), (hs, .inl (cB, 16032, .inl hf)), (bh, .inl (cI, 500, .inl bf)), (p2, .inl (cB, N2, .inl g))] H := hP
  have hD : va_D A [(h, .inr (9, [sk_bytes, sk_from, sk_firstDependency, sk_firstChange, sk_dependencies, .ref hs, .ref bh, sk_leansOn, sk_leantBy, sk_changes, sk_lines, .int (nI P)])), (hs, .inl (cB, 16032, .inl hf)), (bh, .inl (cI, 500, .inl bf)), (p2, .inl (cB, N2, .inl g))] := hD
  obtain ⟨rfl, hrk⟩ := hw
  refine lv_istore_n (lv' := [(3, .int (nI rk)), (0, .ref h), (1, .ref p2), (2, .int (nI j))]) hx hb d_St_patchWith_6 rfl hl (by decide) rfl (fun ls hl => ?_)
  refine lv_iload_n hx hb d_St_patchWith_7 rfl (lv_at hl 0 rfl) ?_
  refine lv_aload_n hx hb d_St_patchWith_8 rfl (lv_at hl 1 rfl) ?_
  refine va_get (D := (dC, dI)) (ci := 9) (v := .int (nI P)) (C := R_St) (T := F_St) (N := 12) hx hb hts i_St hown hK hP 0 rfl rfl 11 (by decide) (hts _ gw_235) (fun _ h9 => h9) rfl d_St_patchWith_9 ?_
  refine lv_icmp_ge (tgt := 36) hx hb d_St_patchWith_12 (by decide) (fun c_12 => ?_) (fun c_12 => ?_)
  · have hr9 : P ≤ rk := (nI_leI (by omega) (by have := hrk.1; omega)).mp c_12
    have hq : ∀ i, i < P → ¬ sq hf (Bh i * 32) 32 = sq g j 32 := fun i hi z => List.lt_irrefl _ (z ▸ (bo_lt _ _ _ _ _).mp (hrk.2.1 i (by omega)))
    refine lv_iconst (v := (-1)) hx hb d_St_patchWith_36 (by decide) ?_
    exact W.iret (v := (-1)) hx hb hr (fun t ht hW => ⟨⟨_, (), rfl, Or.inl ⟨rfl, hq⟩, by rw [ht]; exact hP, va_K.moved hW.alike hK, hD⟩, hS.F ht⟩) hS.2.2 d_St_patchWith_37
  · have hrl : rk < P := by rcases Nat.lt_or_ge rk P with z | z; exact z; exact absurd (nI_le z (by have := hrk.1; omega)) c_12
    obtain ⟨hb1, hb2⟩ := gB rk hrl
    refine lv_aload_n hx hb d_St_patchWith_15 rfl (lv_at hl 1 rfl) ?_
    refine va_get (D := (dC, dI)) (ci := 9) (v := .ref hs) (C := R_St) (T := F_St) (N := 12) hx hb hts i_St hown hK hP 0 rfl rfl 5 (by decide) (hts _ gw_204) (fun _ h9 => h9) rfl d_St_patchWith_16 ?_
    refine lv_aload_n hx hb d_St_patchWith_19 rfl (lv_at hl 1 rfl) ?_
    refine va_get (D := (dC, dI)) (ci := 9) (v := .ref bh) (C := R_St) (T := F_St) (N := 12) hx hb hts i_St hown hK hP 0 rfl rfl 6 (by decide) (hts _ gw_209) (fun _ h9 => h9) rfl d_St_patchWith_20 ?_
    refine lv_iload_n hx hb d_St_patchWith_23 rfl (lv_at hl 0 rfl) ?_
    refine va_iald hx hb hK hP 2 0 rfl rfl (vp_in_nI (by omega) (by omega)) d_St_patchWith_24 ?_
    rw [show (nI rk).toNatClampNeg = rk from nI_clamp (by omega)]
    refine lv_topi (fun x_1 ex_1 => ?_)
    obtain rfl : x_1 = nI (Bh rk) := by rw [ex_1]; first | done | (exact hb1)
    refine lv_bipush (v := 32) hx hb d_St_patchWith_25 (by decide) ?_
    refine lv_imul hx hb d_St_patchWith_27 ?_
    refine lv_topi (fun x_2 ex_2 => ?_)
    obtain rfl : x_2 = nI (Bh rk * 32) := by rw [ex_2]; first | done | (exact nI_mul _ 32)
    refine lv_aload_n hx hb d_St_patchWith_28 rfl (lv_at hl 2 rfl) ?_
    refine lv_iload_n hx hb d_St_patchWith_29 rfl (lv_at hl 3 rfl) ?_
    have hPc := hP.sub (ws' := [(hs, .inl (cB, 16032, .inl hf)), (p2, .inl (cB, N2, .inl g))]) [1, 3] rfl
    have hDc := hD.sub (ws' := [(hs, .inl (cB, 16032, .inl hf)), (p2, .inl (cB, N2, .inl g))]) [1, 3] (by decide) rfl
    have hFc := va_free (wc := [(hs, .inl (cB, 16032, .inl hf)), (p2, .inl (cB, N2, .inl g))]) hD hS hA [1, 3] rfl
    refine va_calli (va_runS (As := [.ref hs, .int (nI (Bh rk * 32)), .ref p2, .int (nI j)]) (rest := []) ⟨hx, hb, hml, hown, hts⟩ (m_St_cmp l dC dI cI cB cL cZ cR hs p2 16032 N2 hf g (Bh rk * 32) j H.size (by decide) hN2 (by omega) (by omega)) ⟨callB_of 4 hts (xg_in gw_780) rfl rfl rfl (hts _ gw_3) (hts _ gw_824) (by decide +kernel) ⟨Nat.le_of_ble_eq_true rfl, Nat.le_of_ble_eq_true rfl⟩, hts _ gw_779⟩ ⟨xw_blind, fun U hU hW => ⟨rfl, by rw [hU], by rw [hU]; exact hPc, va_K.moved hW.alike hK, hDc.weaken (fun _ _ _ _ => trivial)⟩⟩ rfl rfl hl.1 rfl (lv_room (Nat.le_of_ble_eq_true rfl)) d_St_patchWith_30 ⟨Nat.le_of_ble_eq_true rfl, Nat.le_of_ble_eq_true rfl⟩) hS (fun q _ h => hFc q h) hFc (fun r9 u t H1 locs ht hvm hw hB hz1 hk1 hS => ?_)
    obtain ⟨hP1, hK1, hD1⟩ := hB
    rw [ht] at hP1
    obtain ⟨hP, hD⟩ := va_join (wr := [(h, .inr (9, [sk_bytes, sk_from, sk_firstDependency, sk_firstChange, sk_dependencies, .ref hs, .ref bh, sk_leansOn, sk_leantBy, sk_changes, sk_lines, .int (nI P)])), (bh, .inl (cI, 500, .inl bf))]) (w1 := [(hs, .inl (cB, 16032, .inl hf)), (p2, .inl (cB, N2, .inl g))]) hP hD [1, 3] [0, 2] rfl rfl (by decide) (by decide) hk1 hFc hP1 hD1
    generalize H1 = H at hP hS ⊢
    have hP : va_P (dC, dI) classes [(h, .inr (9, [sk_bytes, sk_from, sk_firstDependency, sk_firstChange, sk_dependencies, .ref hs, .ref bh, sk_leansOn, sk_leantBy, sk_changes, sk_lines, .int (nI P)])), (bh, .inl (cI, 500, .inl bf)), (hs, .inl (cB, 16032, .inl hf)), (p2, .inl (cB, N2, .inl g))] H := hP
    have hD : va_D A [(h, .inr (9, [sk_bytes, sk_from, sk_firstDependency, sk_firstChange, sk_dependencies, .ref hs, .ref bh, sk_leansOn, sk_leantBy, sk_changes, sk_lines, .int (nI P)])), (bh, .inl (cI, 500, .inl bf)), (hs, .inl (cB, 16032, .inl hf)), (p2, .inl (cB, N2, .inl g))] := hD
    subst hw
    refine lv_if_eq (tgt := 38) hx hb d_St_patchWith_33 (by decide) (fun c_33 => ?_) (fun c_33 => ?_)
    · refine lv_aload_n hx hb d_St_patchWith_38 rfl (lv_at hl 1 rfl) ?_
      refine va_get (D := (dC, dI)) (ci := 9) (v := .ref bh) (C := R_St) (T := F_St) (N := 12) hx hb hts i_St hown hK hP 0 rfl rfl 6 (by decide) (hts _ gw_209) (fun _ h9 => h9) rfl d_St_patchWith_39 ?_
      refine lv_iload_n hx hb d_St_patchWith_42 rfl (lv_at hl 0 rfl) ?_
      refine va_iald hx hb hK hP 1 0 rfl rfl (vp_in_nI (by omega) (by omega)) d_St_patchWith_43 ?_
      rw [show (nI rk).toNatClampNeg = rk from nI_clamp (by omega)]
      refine lv_topi (fun x_3 ex_3 => ?_)
      obtain rfl : x_3 = nI (Bh rk) := by rw [ex_3]; first | done | (exact hb1)
      have hP := hP.sub (ws' := [(h, .inr (9, [sk_bytes, sk_from, sk_firstDependency, sk_firstChange, sk_dependencies, .ref hs, .ref bh, sk_leansOn, sk_leantBy, sk_changes, sk_lines, .int (nI P)])), (hs, .inl (cB, 16032, .inl hf)), (bh, .inl (cI, 500, .inl bf)), (p2, .inl (cB, N2, .inl g))]) [0, 2, 1, 3] rfl
      have hD := hD.sub (ws' := [(h, .inr (9, [sk_bytes, sk_from, sk_firstDependency, sk_firstChange, sk_dependencies, .ref hs, .ref bh, sk_leansOn, sk_leantBy, sk_changes, sk_lines, .int (nI P)])), (hs, .inl (cB, 16032, .inl hf)), (bh, .inl (cI, 500, .inl bf)), (p2, .inl (cB, N2, .inl g))]) [0, 2, 1, 3] (by decide) rfl
      exact W.iret (v := nI (Bh rk)) hx hb hr (fun t ht hW => ⟨⟨_, (), rfl, Or.inr ⟨rk, hrl, (bo_z _ _ _ _ _).mp c_33, rfl⟩, by rw [ht]; exact hP, va_K.moved hW.alike hK, hD⟩, hS.F ht⟩) hS.2.2 d_St_patchWith_44
    · have hq : ∀ i, i < P → ¬ sq hf (Bh i * 32) 32 = sq g j 32 := by
        intro i hi z
        rcases Nat.lt_trichotomy i rk with q | q | q
        · exact List.lt_irrefl _ (z ▸ (bo_lt _ _ _ _ _).mp (hrk.2.1 i q))
        · exact c_33 ((bo_z _ _ _ _ _).mpr (q ▸ z))
        · exact hrk.2.2 rk (Nat.le_refl _) hrl (gU.zero rk i q hi ((bo_z _ _ _ _ _).mpr z))
      refine lv_iconst (v := (-1)) hx hb d_St_patchWith_36 (by decide) ?_
      have hP := hP.sub (ws' := [(h, .inr (9, [sk_bytes, sk_from, sk_firstDependency, sk_firstChange, sk_dependencies, .ref hs, .ref bh, sk_leansOn, sk_leantBy, sk_changes, sk_lines, .int (nI P)])), (hs, .inl (cB, 16032, .inl hf)), (bh, .inl (cI, 500, .inl bf)), (p2, .inl (cB, N2, .inl g))]) [0, 2, 1, 3] rfl
      have hD := hD.sub (ws' := [(h, .inr (9, [sk_bytes, sk_from, sk_firstDependency, sk_firstChange, sk_dependencies, .ref hs, .ref bh, sk_leansOn, sk_leantBy, sk_changes, sk_lines, .int (nI P)])), (hs, .inl (cB, 16032, .inl hf)), (bh, .inl (cI, 500, .inl bf)), (p2, .inl (cB, N2, .inl g))]) [0, 2, 1, 3] (by decide) rfl
      exact W.iret (v := (-1)) hx hb hr (fun t ht hW => ⟨⟨_, (), rfl, Or.inl ⟨rfl, hq⟩, by rw [ht]; exact hP, va_K.moved hW.alike hK, hD⟩, hS.F ht⟩) hS.2.2 d_St_patchWith_37
set_option maxHeartbeats 4000000 in
set_option maxRecDepth 100000 in
/-- a patch by its hash -/
theorem m_St_patchWiths (l : Launch) (dC : Nat → ClassId) (dI : Nat → Nat → Nat) (cI cB cL cZ cR : ClassId) (h hs bh : Nat) (sk_bytes sk_from sk_firstDependency sk_firstChange sk_dependencies sk_leansOn sk_leantBy sk_changes sk_lines : Value) (P j : Nat) (hf bf : Nat → Int32) (Bh : Nat → Nat) (sz : Nat) (hP5 : P ≤ 500) (gB : ∀ i, i < P → bf i = nI (Bh i) ∧ Bh i ≤ 500) (gU : hs_up hf Bh P) (hj : j + 32 ≤ 16032) : Met l y_St_patchWith ws_St_patchWith ({ frames := 2, cells := 0, slots := 0, locals := 100 }) (xw_Pc dC dI [(cI, .int), (cB, .byte), (cL, .long), (cZ, .boolean), (cR, .object "PatchStore$Repository")] [.ref h, .ref hs, .int (nI j)] [(h, .inr (9, [sk_bytes, sk_from, sk_firstDependency, sk_firstChange, sk_dependencies, .ref hs, .ref bh, sk_leansOn, sk_leantBy, sk_changes, sk_lines, .int (nI P)])), (hs, .inl (cB, 16032, .inl hf)), (bh, .inl (cI, 500, .inl bf))] sz) (va_Qi (fun (r : Int32) (_ : Unit) => pw_ok hf hf Bh P j r) (fun _ t => xw_B dC dI [(cI, .int), (cB, .byte), (cL, .long), (cZ, .boolean), (cR, .object "PatchStore$Repository")] (va_A [(h, .inr (9, [sk_bytes, sk_from, sk_firstDependency, sk_firstChange, sk_dependencies, .ref hs, .ref bh, sk_leansOn, sk_leantBy, sk_changes, sk_lines, .int (nI P)])), (hs, .inl (cB, 16032, .inl hf)), (bh, .inl (cI, 500, .inl bf))] sz) [(h, .inr (9, [sk_bytes, sk_from, sk_firstDependency, sk_firstChange, sk_dependencies, .ref hs, .ref bh, sk_leansOn, sk_leantBy, sk_changes, sk_lines, .int (nI P)])), (hs, .inl (cB, 16032, .inl hf)), (bh, .inl (cI, 500, .inl bf))] t) (va_A [(h, .inr (9, [sk_bytes, sk_from, sk_firstDependency, sk_firstChange, sk_dependencies, .ref hs, .ref bh, sk_leansOn, sk_leantBy, sk_changes, sk_lines, .int (nI P)])), (hs, .inl (cB, 16032, .inl hf)), (bh, .inl (cI, 500, .inl bf))] sz)) 0 0 (va_A [(h, .inr (9, [sk_bytes, sk_from, sk_firstDependency, sk_firstChange, sk_dependencies, .ref hs, .ref bh, sk_leansOn, sk_leantBy, sk_changes, sk_lines, .int (nI P)])), (hs, .inl (cB, 16032, .inl hf)), (bh, .inl (cI, 500, .inl bf))] sz) := by
  refine Met.ofW (cc := prog_10_method_14_code) (maxL := 4) (ret := (Option.some Jvm.ClassFile.FieldType.int)) (by decide) rfl ?_
  intro p e s m args below meth c s₁ B hml hv
  obtain ⟨rfl, hsz, hP, hK, hD0⟩ := hv
  have hx := B.exec
  have hb := B.bytes
  have hr := B.returns
  have hts0 := atoms_spec (ws := ws_St_patchWith) B.pre
  have hts : ∀ w ∈ xg_1, w.before _ s = true := fun w h => hts0 w (List.mem_cons_of_mem _ h)
  have hown : s.vm.findClass "PatchStore$Stock" = some m.cls := findClass_of_methodNamed B.named
  have hlocks := B.notSynchronized
  subst hsz
  have hD := hD0.self (sz := s.heap.size)
  generalize hAe : va_A [(h, .inr (9, [sk_bytes, sk_from, sk_firstDependency, sk_firstChange, sk_dependencies, .ref hs, .ref bh, sk_leansOn, sk_leantBy, sk_changes, sk_lines, .int (nI P)])), (hs, .inl (cB, 16032, .inl hf)), (bh, .inl (cI, 500, .inl bf))] s.heap.size = A at hD ⊢
  have hA : ∀ q : Nat, s.heap.size ≤ q → A q := fun q h => by rw [← hAe]; exact Or.inr h
  have hS : va_S A s.heap s.heap [] := va_S.rf
  have hl := lv_entry ([.ref h, .ref hs, .int (nI j)]) (n := 4) (Nat.le_of_ble_eq_true rfl)
  rw [lg_entry_eq]
  generalize (lg_sl ([.ref h, .ref hs, .int (nI j)]) ++ List.replicate (4 - (lg_sl ([.ref h, .ref hs, .int (nI j)])).length) Slot.unset).toArray = ls at hl ⊢
  have hl : lv_has ls 4 [(0, .ref h), (1, .ref hs), (2, .int (nI j))] := hl
  refine lv_aload_n hx hb d_St_patchWith_0 rfl (lv_at hl 0 rfl) ?_
  refine lv_aload_n hx hb d_St_patchWith_1 rfl (lv_at hl 1 rfl) ?_
  refine lv_iload_n hx hb d_St_patchWith_2 rfl (lv_at hl 2 rfl) ?_
  have hPc := hP.sub (ws' := [(h, .inr (9, [sk_bytes, sk_from, sk_firstDependency, sk_firstChange, sk_dependencies, .ref hs, .ref bh, sk_leansOn, sk_leantBy, sk_changes, sk_lines, .int (nI P)])), (hs, .inl (cB, 16032, .inl hf)), (bh, .inl (cI, 500, .inl bf))]) [0, 1, 2] rfl
  have hDc := hD.sub (ws' := [(h, .inr (9, [sk_bytes, sk_from, sk_firstDependency, sk_firstChange, sk_dependencies, .ref hs, .ref bh, sk_leansOn, sk_leantBy, sk_changes, sk_lines, .int (nI P)])), (hs, .inl (cB, 16032, .inl hf)), (bh, .inl (cI, 500, .inl bf))]) [0, 1, 2] (by decide) rfl
  have hFc := va_free (wc := [(h, .inr (9, [sk_bytes, sk_from, sk_firstDependency, sk_firstChange, sk_dependencies, .ref hs, .ref bh, sk_leansOn, sk_leantBy, sk_changes, sk_lines, .int (nI P)])), (hs, .inl (cB, 16032, .inl hf)), (bh, .inl (cI, 500, .inl bf))]) hD hS hA [0, 1, 2] rfl
  refine va_calli (va_runV (As := [.ref hs, .int (nI j)]) (rest := []) ⟨hx, hb, hml, hown, hts⟩ (m_St_ranks l dC dI cI cB cL cZ cR h hs bh sk_bytes sk_from sk_firstDependency sk_firstChange sk_dependencies sk_leansOn sk_leantBy sk_changes sk_lines P j hf bf Bh s.heap.size hP5 gB gU.mono hj) (cwV 2 hts (xg_V gw_820 gw_821 gw_822 gw_3 gw_823) rfl rfl rfl (by decide +kernel) ⟨Nat.le_of_ble_eq_true rfl, Nat.le_of_ble_eq_true rfl⟩) ⟨xw_blind, va_recv hK hPc (ci := 9) (q0 := 0) rfl rfl, fun U hU hW => ⟨rfl, by rw [hU], by rw [hU]; exact hPc, va_K.moved hW.alike hK, hDc.weaken (fun _ _ _ _ => trivial)⟩⟩ rfl rfl hl.1 rfl (lv_room (Nat.le_of_ble_eq_true rfl)) d_St_patchWith_3 ⟨Nat.le_of_ble_eq_true rfl, Nat.le_of_ble_eq_true rfl⟩) hS (fun q _ h => hFc q h) hFc (fun r9 rk t H1 locs ht hvm hw hB hz1 hk1 hS => ?_)
  obtain ⟨hP1, hK1, hD1⟩ := hB
  rw [ht] at hP1
  obtain ⟨hP, hD⟩ := va_join (wr := []) (w1 := [(h, .inr (9, [sk_bytes, sk_from, sk_firstDependency, sk_firstChange, sk_dependencies, .ref hs, .ref bh, sk_leansOn, sk_leantBy, sk_changes, sk_lines, .int (nI P)])), (hs, .inl (cB, 16032, .inl hf)), (bh, .inl (cI, 500, .inl bf))]) hP hD [0, 1, 2] [] rfl rfl (by decide) (by decide) hk1 hFc hP1 hD1
  generalize H1 = H at hP hS ⊢
  have hP : va_P (dC, dI) classes [(h, .inr (9, [sk_bytes, sk_from, sk_firstDependency, sk_firstChange, sk_dependencies, .ref hs, .ref bh, sk_leansOn, sk_leantBy, sk_changes, sk_lines, .int (nI P)])), (hs, .inl (cB, 16032, .inl hf)), (bh, .inl (cI, 500, .inl bf))] H := hP
  have hD : va_D A [(h, .inr (9, [sk_bytes, sk_from, sk_firstDependency, sk_firstChange, sk_dependencies, .ref hs, .ref bh, sk_leansOn, sk_leantBy, sk_changes, sk_lines, .int (nI P)])), (hs, .inl (cB, 16032, .inl hf)), (bh, .inl (cI, 500, .inl bf))] := hD
  obtain ⟨rfl, hrk⟩ := hw
  refine lv_istore_n (lv' := [(3, .int (nI rk)), (0, .ref h), (1, .ref hs), (2, .int (nI j))]) hx hb d_St_patchWith_6 rfl hl (by decide) rfl (fun ls hl => ?_)
  refine lv_iload_n hx hb d_St_patchWith_7 rfl (lv_at hl 0 rfl) ?_
  refine lv_aload_n hx hb d_St_patchWith_8 rfl (lv_at hl 1 rfl) ?_
  refine va_get (D := (dC, dI)) (ci := 9) (v := .int (nI P)) (C := R_St) (T := F_St) (N := 12) hx hb hts i_St hown hK hP 0 rfl rfl 11 (by decide) (hts _ gw_235) (fun _ h9 => h9) rfl d_St_patchWith_9 ?_
  refine lv_icmp_ge (tgt := 36) hx hb d_St_patchWith_12 (by decide) (fun c_12 => ?_) (fun c_12 => ?_)
  · have hr9 : P ≤ rk := (nI_leI (by omega) (by have := hrk.1; omega)).mp c_12
    have hq : ∀ i, i < P → ¬ sq hf (Bh i * 32) 32 = sq hf j 32 := fun i hi z => List.lt_irrefl _ (z ▸ (bo_lt _ _ _ _ _).mp (hrk.2.1 i (by omega)))
    refine lv_iconst (v := (-1)) hx hb d_St_patchWith_36 (by decide) ?_
    exact W.iret (v := (-1)) hx hb hr (fun t ht hW => ⟨⟨_, (), rfl, Or.inl ⟨rfl, hq⟩, by rw [ht]; exact hP, va_K.moved hW.alike hK, hD⟩, hS.F ht⟩) hS.2.2 d_St_patchWith_37
  · have hrl : rk < P := by rcases Nat.lt_or_ge rk P with z | z; exact z; exact absurd (nI_le z (by have := hrk.1; omega)) c_12
    obtain ⟨hb1, hb2⟩ := gB rk hrl
    refine lv_aload_n hx hb d_St_patchWith_15 rfl (lv_at hl 1 rfl) ?_
    refine va_get (D := (dC, dI)) (ci := 9) (v := .ref hs) (C := R_St) (T := F_St) (N := 12) hx hb hts i_St hown hK hP 0 rfl rfl 5 (by decide) (hts _ gw_204) (fun _ h9 => h9) rfl d_St_patchWith_16 ?_
    refine lv_aload_n hx hb d_St_patchWith_19 rfl (lv_at hl 1 rfl) ?_
    refine va_get (D := (dC, dI)) (ci := 9) (v := .ref bh) (C := R_St) (T := F_St) (N := 12) hx hb hts i_St hown hK hP 0 rfl rfl 6 (by decide) (hts _ gw_209) (fun _ h9 => h9) rfl d_St_patchWith_20 ?_
    refine lv_iload_n hx hb d_St_patchWith_23 rfl (lv_at hl 0 rfl) ?_
    refine va_iald hx hb hK hP 2 0 rfl rfl (vp_in_nI (by omega) (by omega)) d_St_patchWith_24 ?_
    rw [show (nI rk).toNatClampNeg = rk from nI_clamp (by omega)]
    refine lv_topi (fun x_1 ex_1 => ?_)
    obtain rfl : x_1 = nI (Bh rk) := by rw [ex_1]; first | done | (exact hb1)
    refine lv_bipush (v := 32) hx hb d_St_patchWith_25 (by decide) ?_
    refine lv_imul hx hb d_St_patchWith_27 ?_
    refine lv_topi (fun x_2 ex_2 => ?_)
    obtain rfl : x_2 = nI (Bh rk * 32) := by rw [ex_2]; first | done | (exact nI_mul _ 32)
    refine lv_aload_n hx hb d_St_patchWith_28 rfl (lv_at hl 2 rfl) ?_
    refine lv_iload_n hx hb d_St_patchWith_29 rfl (lv_at hl 3 rfl) ?_
    have hPc := hP.sub (ws' := [(hs, .inl (cB, 16032, .inl hf))]) [1] rfl
    have hDc := hD.sub (ws' := [(hs, .inl (cB, 16032, .inl hf))]) [1] (by decide) rfl
    have hFc := va_free (wc := [(hs, .inl (cB, 16032, .inl hf))]) hD hS hA [1] rfl
    refine va_calli (va_runS (As := [.ref hs, .int (nI (Bh rk * 32)), .ref hs, .int (nI j)]) (rest := []) ⟨hx, hb, hml, hown, hts⟩ (m_St_cmps l dC dI cI cB cL cZ cR hs 16032 hf (Bh rk * 32) j H.size (by decide) (by omega) (by omega)) ⟨callB_of 4 hts (xg_in gw_780) rfl rfl rfl (hts _ gw_3) (hts _ gw_824) (by decide +kernel) ⟨Nat.le_of_ble_eq_true rfl, Nat.le_of_ble_eq_true rfl⟩, hts _ gw_779⟩ ⟨xw_blind, fun U hU hW => ⟨rfl, by rw [hU], by rw [hU]; exact hPc, va_K.moved hW.alike hK, hDc.weaken (fun _ _ _ _ => trivial)⟩⟩ rfl rfl hl.1 rfl (lv_room (Nat.le_of_ble_eq_true rfl)) d_St_patchWith_30 ⟨Nat.le_of_ble_eq_true rfl, Nat.le_of_ble_eq_true rfl⟩) hS (fun q _ h => hFc q h) hFc (fun r9 u t H1 locs ht hvm hw hB hz1 hk1 hS => ?_)
    obtain ⟨hP1, hK1, hD1⟩ := hB
    rw [ht] at hP1
    obtain ⟨hP, hD⟩ := va_join (wr := [(h, .inr (9, [sk_bytes, sk_from, sk_firstDependency, sk_firstChange, sk_dependencies, .ref hs, .ref bh, sk_leansOn, sk_leantBy, sk_changes, sk_lines, .int (nI P)])), (bh, .inl (cI, 500, .inl bf))]) (w1 := [(hs, .inl (cB, 16032, .inl hf))]) hP hD [1] [0, 2] rfl rfl (by decide) (by decide) hk1 hFc hP1 hD1
    generalize H1 = H at hP hS ⊢
    have hP : va_P (dC, dI) classes [(h, .inr (9, [sk_bytes, sk_from, sk_firstDependency, sk_firstChange, sk_dependencies, .ref hs, .ref bh, sk_leansOn, sk_leantBy, sk_changes, sk_lines, .int (nI P)])), (bh, .inl (cI, 500, .inl bf)), (hs, .inl (cB, 16032, .inl hf))] H := hP
    have hD : va_D A [(h, .inr (9, [sk_bytes, sk_from, sk_firstDependency, sk_firstChange, sk_dependencies, .ref hs, .ref bh, sk_leansOn, sk_leantBy, sk_changes, sk_lines, .int (nI P)])), (bh, .inl (cI, 500, .inl bf)), (hs, .inl (cB, 16032, .inl hf))] := hD
    subst hw
    refine lv_if_eq (tgt := 38) hx hb d_St_patchWith_33 (by decide) (fun c_33 => ?_) (fun c_33 => ?_)
    · refine lv_aload_n hx hb d_St_patchWith_38 rfl (lv_at hl 1 rfl) ?_
      refine va_get (D := (dC, dI)) (ci := 9) (v := .ref bh) (C := R_St) (T := F_St) (N := 12) hx hb hts i_St hown hK hP 0 rfl rfl 6 (by decide) (hts _ gw_209) (fun _ h9 => h9) rfl d_St_patchWith_39 ?_
      refine lv_iload_n hx hb d_St_patchWith_42 rfl (lv_at hl 0 rfl) ?_
      refine va_iald hx hb hK hP 1 0 rfl rfl (vp_in_nI (by omega) (by omega)) d_St_patchWith_43 ?_
      rw [show (nI rk).toNatClampNeg = rk from nI_clamp (by omega)]
      refine lv_topi (fun x_3 ex_3 => ?_)
      obtain rfl : x_3 = nI (Bh rk) := by rw [ex_3]; first | done | (exact hb1)
      have hP := hP.sub (ws' := [(h, .inr (9, [sk_bytes, sk_from, sk_firstDependency, sk_firstChange, sk_dependencies, .ref hs, .ref bh, sk_leansOn, sk_leantBy, sk_changes, sk_lines, .int (nI P)])), (hs, .inl (cB, 16032, .inl hf)), (bh, .inl (cI, 500, .inl bf))]) [0, 2, 1] rfl
      have hD := hD.sub (ws' := [(h, .inr (9, [sk_bytes, sk_from, sk_firstDependency, sk_firstChange, sk_dependencies, .ref hs, .ref bh, sk_leansOn, sk_leantBy, sk_changes, sk_lines, .int (nI P)])), (hs, .inl (cB, 16032, .inl hf)), (bh, .inl (cI, 500, .inl bf))]) [0, 2, 1] (by decide) rfl
      exact W.iret (v := nI (Bh rk)) hx hb hr (fun t ht hW => ⟨⟨_, (), rfl, Or.inr ⟨rk, hrl, (bo_z _ _ _ _ _).mp c_33, rfl⟩, by rw [ht]; exact hP, va_K.moved hW.alike hK, hD⟩, hS.F ht⟩) hS.2.2 d_St_patchWith_44
    · have hq : ∀ i, i < P → ¬ sq hf (Bh i * 32) 32 = sq hf j 32 := by
        intro i hi z
        rcases Nat.lt_trichotomy i rk with q | q | q
        · exact List.lt_irrefl _ (z ▸ (bo_lt _ _ _ _ _).mp (hrk.2.1 i q))
        · exact c_33 ((bo_z _ _ _ _ _).mpr (q ▸ z))
        · exact hrk.2.2 rk (Nat.le_refl _) hrl (gU.zero rk i q hi ((bo_z _ _ _ _ _).mpr z))
      refine lv_iconst (v := (-1)) hx hb d_St_patchWith_36 (by decide) ?_
      have hP := hP.sub (ws' := [(h, .inr (9, [sk_bytes, sk_from, sk_firstDependency, sk_firstChange, sk_dependencies, .ref hs, .ref bh, sk_leansOn, sk_leantBy, sk_changes, sk_lines, .int (nI P)])), (hs, .inl (cB, 16032, .inl hf)), (bh, .inl (cI, 500, .inl bf))]) [0, 2, 1] rfl
      have hD := hD.sub (ws' := [(h, .inr (9, [sk_bytes, sk_from, sk_firstDependency, sk_firstChange, sk_dependencies, .ref hs, .ref bh, sk_leansOn, sk_leantBy, sk_changes, sk_lines, .int (nI P)])), (hs, .inl (cB, 16032, .inl hf)), (bh, .inl (cI, 500, .inl bf))]) [0, 2, 1] (by decide) rfl
      exact W.iret (v := (-1)) hx hb hr (fun t ht hW => ⟨⟨_, (), rfl, Or.inl ⟨rfl, hq⟩, by rw [ht]; exact hP, va_K.moved hW.alike hK, hD⟩, hS.F ht⟩) hS.2.2 d_St_patchWith_37
end
section
/-! 54.form1.lean.txt -/
theorem gw_186 : (Jvm.Cond.fieldLink "PatchStore$Form" (37 : Nat) "PatchStore$Stock" "bytes" "[B") ∈ xg_1 := xg_s1 186 rfl rfl
theorem gw_724 : (Jvm.Cond.static ({ cls := "PatchStore$Form", name := "isPlain", desc := "([BII)Z" } : Jvm.MethodName)) ∈ xg_1 := xg_s4 4 rfl rfl
theorem gw_725 : (Jvm.Cond.code ({ cls := "PatchStore$Form", name := "isPlain", desc := "([BII)Z" } : Jvm.MethodName) prog_3_method_2_code (4 : Nat) (Option.some Jvm.ClassFile.FieldType.boolean)) ∈ xg_1 := xg_s4 5 rfl rfl
theorem gw_794 : (Jvm.Cond.methodLink "PatchStore$Form" (71 : Nat) ({ cls := "PatchStore$Form", name := "isPlain", desc := "([BII)Z" } : Jvm.MethodName)) ∈ xg_1 := xg_s4 74 rfl rfl
def y_Fo_isPlain : MethodName := ⟨"PatchStore$Form", "isPlain", "([BII)Z"⟩
abbrev c_Fo_isPlain : Cond := (Jvm.Cond.code ({ cls := "PatchStore$Form", name := "isPlain", desc := "([BII)Z" } : Jvm.MethodName) prog_3_method_2_code (4 : Nat) (Option.some Jvm.ClassFile.FieldType.boolean))
abbrev ws_Fo_isPlain : List Cond := c_Fo_isPlain :: xg_1
theorem d_Fo_isPlain_0 : decode prog_3_method_2_code 0 = .ok (.iload_n 1, 1) := by decide +kernel
theorem d_Fo_isPlain_1 : decode prog_3_method_2_code 1 = .ok (.istore_n 3, 1) := by decide +kernel
theorem d_Fo_isPlain_2 : decode prog_3_method_2_code 2 = .ok (.iload_n 3, 1) := by decide +kernel
theorem d_Fo_isPlain_3 : decode prog_3_method_2_code 3 = .ok (.iload_n 1, 1) := by decide +kernel
theorem d_Fo_isPlain_4 : decode prog_3_method_2_code 4 = .ok (.iload_n 2, 1) := by decide +kernel
theorem d_Fo_isPlain_5 : decode prog_3_method_2_code 5 = .ok (.iadd, 1) := by decide +kernel
theorem d_Fo_isPlain_6 : decode prog_3_method_2_code 6 = .ok (.if_icmp .ge 27, 3) := by decide +kernel
theorem d_Fo_isPlain_9 : decode prog_3_method_2_code 9 = .ok (.aload_n 0, 1) := by decide +kernel
theorem d_Fo_isPlain_10 : decode prog_3_method_2_code 10 = .ok (.iload_n 3, 1) := by decide +kernel
theorem d_Fo_isPlain_11 : decode prog_3_method_2_code 11 = .ok (.baload, 1) := by decide +kernel
theorem d_Fo_isPlain_12 : decode prog_3_method_2_code 12 = .ok (.bipush 33, 2) := by decide +kernel
theorem d_Fo_isPlain_14 : decode prog_3_method_2_code 14 = .ok (.if_icmp .lt 11, 3) := by decide +kernel
theorem d_Fo_isPlain_17 : decode prog_3_method_2_code 17 = .ok (.aload_n 0, 1) := by decide +kernel
theorem d_Fo_isPlain_18 : decode prog_3_method_2_code 18 = .ok (.iload_n 3, 1) := by decide +kernel
theorem d_Fo_isPlain_19 : decode prog_3_method_2_code 19 = .ok (.baload, 1) := by decide +kernel
theorem d_Fo_isPlain_20 : decode prog_3_method_2_code 20 = .ok (.bipush 126, 2) := by decide +kernel
theorem d_Fo_isPlain_22 : decode prog_3_method_2_code 22 = .ok (.if_icmp .le 5, 3) := by decide +kernel
theorem d_Fo_isPlain_25 : decode prog_3_method_2_code 25 = .ok (.iconst 0, 1) := by decide +kernel
theorem d_Fo_isPlain_26 : decode prog_3_method_2_code 26 = .ok (.ireturn, 1) := by decide +kernel
theorem d_Fo_isPlain_27 : decode prog_3_method_2_code 27 = .ok (.iinc 3 1, 3) := by decide +kernel
theorem d_Fo_isPlain_30 : decode prog_3_method_2_code 30 = .ok (.goto (-28), 3) := by decide +kernel
theorem d_Fo_isPlain_33 : decode prog_3_method_2_code 33 = .ok (.iconst 1, 1) := by decide +kernel
theorem d_Fo_isPlain_34 : decode prog_3_method_2_code 34 = .ok (.ireturn, 1) := by decide +kernel
def y_Fo_nameEnd : MethodName := ⟨"PatchStore$Form", "nameEnd", "(III)I"⟩
abbrev c_Fo_nameEnd : Cond := (Jvm.Cond.code ({ cls := "PatchStore$Form", name := "nameEnd", desc := "(III)I" } : Jvm.MethodName) prog_3_method_7_code (5 : Nat) (Option.some Jvm.ClassFile.FieldType.int))
abbrev ws_Fo_nameEnd : List Cond := c_Fo_nameEnd :: xg_1
theorem d_Fo_nameEnd_0 : decode prog_3_method_7_code 0 = .ok (.iload_n 1, 1) := by decide +kernel
theorem d_Fo_nameEnd_1 : decode prog_3_method_7_code 1 = .ok (.iload_n 2, 1) := by decide +kernel
theorem d_Fo_nameEnd_2 : decode prog_3_method_7_code 2 = .ok (.if_icmp .lt 5, 3) := by decide +kernel
theorem d_Fo_nameEnd_5 : decode prog_3_method_7_code 5 = .ok (.iconst (-1), 1) := by decide +kernel
theorem d_Fo_nameEnd_6 : decode prog_3_method_7_code 6 = .ok (.ireturn, 1) := by decide +kernel
theorem d_Fo_nameEnd_7 : decode prog_3_method_7_code 7 = .ok (.aload_n 0, 1) := by decide +kernel
theorem d_Fo_nameEnd_8 : decode prog_3_method_7_code 8 = .ok (.getfield 9, 3) := by decide +kernel
theorem d_Fo_nameEnd_11 : decode prog_3_method_7_code 11 = .ok (.getfield 37, 3) := by decide +kernel
theorem d_Fo_nameEnd_14 : decode prog_3_method_7_code 14 = .ok (.iload_n 1, 1) := by decide +kernel
theorem d_Fo_nameEnd_15 : decode prog_3_method_7_code 15 = .ok (.baload, 1) := by decide +kernel
theorem d_Fo_nameEnd_16 : decode prog_3_method_7_code 16 = .ok (.istore 4, 2) := by decide +kernel
theorem d_Fo_nameEnd_18 : decode prog_3_method_7_code 18 = .ok (.iload 4, 2) := by decide +kernel
theorem d_Fo_nameEnd_20 : decode prog_3_method_7_code 20 = .ok (.iload_n 3, 1) := by decide +kernel
theorem d_Fo_nameEnd_21 : decode prog_3_method_7_code 21 = .ok (.if_icmp .lt 20, 3) := by decide +kernel
theorem d_Fo_nameEnd_24 : decode prog_3_method_7_code 24 = .ok (.iload 4, 2) := by decide +kernel
theorem d_Fo_nameEnd_26 : decode prog_3_method_7_code 26 = .ok (.bipush 64, 2) := by decide +kernel
theorem d_Fo_nameEnd_28 : decode prog_3_method_7_code 28 = .ok (.if_icmp .gt 13, 3) := by decide +kernel
theorem d_Fo_nameEnd_31 : decode prog_3_method_7_code 31 = .ok (.iload_n 1, 1) := by decide +kernel
theorem d_Fo_nameEnd_32 : decode prog_3_method_7_code 32 = .ok (.iconst 1, 1) := by decide +kernel
theorem d_Fo_nameEnd_33 : decode prog_3_method_7_code 33 = .ok (.iadd, 1) := by decide +kernel
theorem d_Fo_nameEnd_34 : decode prog_3_method_7_code 34 = .ok (.iload 4, 2) := by decide +kernel
theorem d_Fo_nameEnd_36 : decode prog_3_method_7_code 36 = .ok (.iadd, 1) := by decide +kernel
theorem d_Fo_nameEnd_37 : decode prog_3_method_7_code 37 = .ok (.iload_n 2, 1) := by decide +kernel
theorem d_Fo_nameEnd_38 : decode prog_3_method_7_code 38 = .ok (.if_icmp .le 5, 3) := by decide +kernel
theorem d_Fo_nameEnd_41 : decode prog_3_method_7_code 41 = .ok (.iconst (-1), 1) := by decide +kernel
theorem d_Fo_nameEnd_42 : decode prog_3_method_7_code 42 = .ok (.ireturn, 1) := by decide +kernel
theorem d_Fo_nameEnd_43 : decode prog_3_method_7_code 43 = .ok (.aload_n 0, 1) := by decide +kernel
theorem d_Fo_nameEnd_44 : decode prog_3_method_7_code 44 = .ok (.getfield 9, 3) := by decide +kernel
theorem d_Fo_nameEnd_47 : decode prog_3_method_7_code 47 = .ok (.getfield 37, 3) := by decide +kernel
theorem d_Fo_nameEnd_50 : decode prog_3_method_7_code 50 = .ok (.iload_n 1, 1) := by decide +kernel
theorem d_Fo_nameEnd_51 : decode prog_3_method_7_code 51 = .ok (.iconst 1, 1) := by decide +kernel
theorem d_Fo_nameEnd_52 : decode prog_3_method_7_code 52 = .ok (.iadd, 1) := by decide +kernel
theorem d_Fo_nameEnd_53 : decode prog_3_method_7_code 53 = .ok (.iload 4, 2) := by decide +kernel
theorem d_Fo_nameEnd_55 : decode prog_3_method_7_code 55 = .ok (.invokestatic 71, 3) := by decide +kernel
theorem d_Fo_nameEnd_58 : decode prog_3_method_7_code 58 = .ok (.ifCond .eq 12, 3) := by decide +kernel
theorem d_Fo_nameEnd_61 : decode prog_3_method_7_code 61 = .ok (.iload_n 1, 1) := by decide +kernel
theorem d_Fo_nameEnd_62 : decode prog_3_method_7_code 62 = .ok (.iconst 1, 1) := by decide +kernel
theorem d_Fo_nameEnd_63 : decode prog_3_method_7_code 63 = .ok (.iadd, 1) := by decide +kernel
theorem d_Fo_nameEnd_64 : decode prog_3_method_7_code 64 = .ok (.iload 4, 2) := by decide +kernel
theorem d_Fo_nameEnd_66 : decode prog_3_method_7_code 66 = .ok (.iadd, 1) := by decide +kernel
theorem d_Fo_nameEnd_67 : decode prog_3_method_7_code 67 = .ok (.goto 4, 3) := by decide +kernel
theorem d_Fo_nameEnd_70 : decode prog_3_method_7_code 70 = .ok (.iconst (-1), 1) := by decide +kernel
theorem d_Fo_nameEnd_71 : decode prog_3_method_7_code 71 = .ok (.ireturn, 1) := by decide +kernel
/-- a stretch of plain characters -/
def plain (f : Nat → Int32) (a n : Nat) : Prop := ∀ i, a ≤ i → i < a + n → ¬ f i < 33 ∧ f i ≤ 126
/-- a name with its length in front: from a to b -/
def nmR (f : Nat → Int32) (en : Nat) (le : Int32) (a b : Nat) : Prop := a < en ∧ ∃ n, n ≤ 64 ∧ f a = nI n ∧ ¬ f a < le ∧ a + 1 + n ≤ en ∧ plain f (a + 1) n ∧ b = a + 1 + n
/-- an up or down -/
def plR (f : Nat → Int32) (en a b : Nat) : Prop := a < en ∧ ((f a = 0 ∧ b = a + 1) ∨ (f a = 1 ∧ b = a + 7))
/-- a line with its length in front -/
def lnR (f : Nat → Int32) (en a b : Nat) : Prop := a + 2 ≤ en ∧ 1 ≤ tw f a ∧ tw f a ≤ 500 ∧ a + 1 + tw f a < en ∧ (∀ i, a + 2 ≤ i → i < a + 1 + tw f a → ¬ f i = 10) ∧ b = a + 2 + tw f a
def lnsR (f : Nat → Int32) (en : Nat) : Nat → Nat → Nat → Prop
  | 0, a, b => b = a
  | n + 1, a, b => ∃ q, lnR f en a q ∧ lnsR f en n q b
def calR (f : Nat → Int32) (en a b : Nat) : Prop := a + 6 ≤ en ∧ ¬ f (a + 5) = 0 ∧ nmR f en 0 (a + 6 + 4 * b8 (f (a + 5))) b
def insR (f : Nat → Int32) (en a b : Nat) : Prop := ∃ q1 q2, plR f en (a + 5) q1 ∧ plR f en q1 q2 ∧ q2 + 2 ≤ en ∧ 1 ≤ tw f q2 ∧ lnsR f en (tw f q2) (q2 + 2) b
def chR (f : Nat → Int32) (en a b : Nat) : Prop := (f a = 0 ∧ nmR f en 1 (a + 5) b) ∨ (f a = 1 ∧ calR f en a b) ∨ (f a = 2 ∧ insR f en a b) ∨ (f a = 3 ∧ a + 7 ≤ en ∧ b = a + 7) ∨ (f a = 4 ∧ a + 13 ≤ en ∧ b = a + 13)
theorem plR.uniq {f : Nat → Int32} {en a b q : Nat} (h1 : plR f en a b) (h2 : plR f en a q) : b = q := by
  rcases h1.2 with ⟨h3, h4⟩ | ⟨h3, h4⟩ <;> rcases h2.2 with ⟨h5, h6⟩ | ⟨h5, h6⟩
  · omega
  · rw [h3] at h5; exact absurd h5 (by decide)
  · rw [h3] at h5; exact absurd h5 (by decide)
  · omega
theorem lnR.uniq {f : Nat → Int32} {en a b q : Nat} (h1 : lnR f en a b) (h2 : lnR f en a q) : b = q := by
  rw [h1.2.2.2.2.2, h2.2.2.2.2.2]
theorem nmR.uniq {f : Nat → Int32} {en a b q : Nat} {le : Int32} (h1 : nmR f en le a b) (h2 : nmR f en le a q) : b = q := by
  obtain ⟨-, n, hn, e1, -, -, -, rfl⟩ := h1
  obtain ⟨-, k, hk, e2, -, -, -, rfl⟩ := h2
  have := (nI_eq (by omega) (by omega)).mp (e1.symm.trans e2)
  omega
theorem lnsR.s {f : Nat → Int32} {en n a b q : Nat} (h : lnR f en a q) : lnsR f en (n + 1) a b ↔ lnsR f en n q b := ⟨fun ⟨q2, h1, h2⟩ => lnR.uniq h1 h ▸ h2, fun h2 => ⟨q, h, h2⟩⟩
theorem lnsR.uniq {f : Nat → Int32} {en : Nat} : ∀ {n a b q : Nat}, lnsR f en n a b → lnsR f en n a q → b = q
  | 0, _, _, _, h1, h2 => (show _ = _ from h1).trans (show _ = _ from h2).symm
  | n + 1, _, _, _, ⟨q1, g1, h1⟩, ⟨q2, g2, h2⟩ => by
    have := lnR.uniq g1 g2
    subst this
    exact lnsR.uniq h1 h2
theorem insR.uniq {f : Nat → Int32} {en a b q : Nat} (h1 : insR f en a b) (h2 : insR f en a q) : b = q := by
  obtain ⟨c1, d1, x1, x2, -, -, x3⟩ := h1
  obtain ⟨c2, d2, y1, y2, -, -, y3⟩ := h2
  have := plR.uniq x1 y1
  subst this
  have := plR.uniq x2 y2
  subst this
  exact lnsR.uniq x3 y3
theorem chR.uniq {f : Nat → Int32} {en a b q : Nat} (h1 : chR f en a b) (h2 : chR f en a q) : b = q := by
  rcases h1 with ⟨e1, h1⟩ | ⟨e1, h1⟩ | ⟨e1, h1⟩ | ⟨e1, -, h1⟩ | ⟨e1, -, h1⟩ <;> rcases h2 with ⟨e2, h2⟩ | ⟨e2, h2⟩ | ⟨e2, h2⟩ | ⟨e2, -, h2⟩ | ⟨e2, -, h2⟩ <;> first
    | (rw [e1] at e2; exact absurd e2 (by decide))
    | exact nmR.uniq h1 h2
    | exact nmR.uniq h1.2.2 h2.2.2
    | exact insR.uniq h1 h2
    | omega
set_option maxHeartbeats 4000000 in
set_option maxRecDepth 100000 in
/-- plain characters -/
theorem m_Fo_isPlain (l : Launch) (dC : Nat → ClassId) (dI : Nat → Nat → Nat) (cI cB cL cZ cR : ClassId) (p1 N1 : Nat) (f : Nat → Int32) (a n : Nat) (sz : Nat) (hN1 : N1 < 2 ^ 31) (h1 : a + n ≤ N1) : Met l y_Fo_isPlain ws_Fo_isPlain ({ frames := 0, cells := 0, slots := 0, locals := 0 }) (xw_Pc dC dI [(cI, .int), (cB, .byte), (cL, .long), (cZ, .boolean), (cR, .object "PatchStore$Repository")] [.ref p1, .int (nI a), .int (nI n)] [(p1, .inl (cB, N1, .inl f))] sz) (va_Qi (fun (r : Int32) (_ : Unit) => (r = 1 ∧ plain f a n) ∨ (r = 0 ∧ ¬ plain f a n)) (fun _ t => xw_B dC dI [(cI, .int), (cB, .byte), (cL, .long), (cZ, .boolean), (cR, .object "PatchStore$Repository")] (va_A [(p1, .inl (cB, N1, .inl f))] sz) [(p1, .inl (cB, N1, .inl f))] t) (va_A [(p1, .inl (cB, N1, .inl f))] sz)) 0 0 (va_A [(p1, .inl (cB, N1, .inl f))] sz) := by
  refine Met.ofW (cc := prog_3_method_2_code) (maxL := 4) (ret := (Option.some Jvm.ClassFile.FieldType.boolean)) (by decide) rfl ?_
  intro p e s m args below meth c s₁ B hml hv
  obtain ⟨rfl, hsz, hP, hK, hD0⟩ := hv
  have hx := B.exec
  have hb := B.bytes
  have hr := B.returns
  have hts0 := atoms_spec (ws := ws_Fo_isPlain) B.pre
  have hts : ∀ w ∈ xg_1, w.before _ s = true := fun w h => hts0 w (List.mem_cons_of_mem _ h)
  have hown : s.vm.findClass "PatchStore$Form" = some m.cls := findClass_of_methodNamed B.named
  have hlocks := B.notSynchronized
  subst hsz
  have hD := hD0.self (sz := s.heap.size)
  generalize hAe : va_A [(p1, .inl (cB, N1, .inl f))] s.heap.size = A at hD ⊢
  have hA : ∀ q : Nat, s.heap.size ≤ q → A q := fun q h => by rw [← hAe]; exact Or.inr h
  have hS : va_S A s.heap s.heap [] := va_S.rf
  have hl := lv_entry ([.ref p1, .int (nI a), .int (nI n)]) (n := 4) (Nat.le_of_ble_eq_true rfl)
  rw [lg_entry_eq]
  generalize (lg_sl ([.ref p1, .int (nI a), .int (nI n)]) ++ List.replicate (4 - (lg_sl ([.ref p1, .int (nI a), .int (nI n)])).length) Slot.unset).toArray = ls at hl ⊢
  have hl : lv_has ls 4 [(0, .ref p1), (1, .int (nI a)), (2, .int (nI n))] := hl
  generalize hQe : MQ _ _ _ _ _ _ _ = Q
  refine lv_iload_n hx hb d_Fo_isPlain_0 rfl (lv_at hl 1 rfl) ?_
  refine lv_istore_n (lv' := [(3, .int (nI a)), (0, .ref p1), (1, .int (nI a)), (2, .int (nI n))]) hx hb d_Fo_isPlain_1 rfl hl (by decide) rfl (fun ls hl => ?_)
  have loop_2 : ∀ (n9 : Nat) (k : Nat) (H : Heap) (locs : List Loc) (ls : Array Slot), a + n - k < n9 → (a ≤ k) → (k ≤ a + n) → (∀ i, a ≤ i → i < k → ¬ f i < 33 ∧ f i ≤ 126) → va_P (dC, dI) classes [(p1, .inl (cB, N1, .inl f))] H → va_D A [(p1, .inl (cB, N1, .inl f))] → va_S A s.heap H locs → lv_has ls 4 [(0, .ref p1), (1, .int (nI a)), (2, .int (nI n)), (3, .int (nI k))] → W p l e (headSpec ws_Fo_isPlain ({ frames := 0, cells := 0, slots := 0, locals := 0 })).room s m ([.ref p1, .int (nI a), .int (nI n)] : List Value).toArray below meth c H locs 0 0 Q (F0 m 2 ls []) := by
    intro n9
    induction n9 with
    | zero => intro k H locs ls hm; exact absurd hm (Nat.not_lt_zero _)
    | succ n9 ih_2 =>
      intro k H locs ls hm hk1 hk2 hq hP hD hS hl
      refine lv_iload_n hx hb d_Fo_isPlain_2 rfl (lv_at hl 3 rfl) ?_
      refine lv_iload_n hx hb d_Fo_isPlain_3 rfl (lv_at hl 1 rfl) ?_
      refine lv_iload_n hx hb d_Fo_isPlain_4 rfl (lv_at hl 2 rfl) ?_
      refine lv_iadd hx hb d_Fo_isPlain_5 ?_
      refine lv_topi (fun x_1 ex_1 => ?_)
      obtain rfl : x_1 = nI (a + n) := by rw [ex_1]; first | done | (exact nI_add _ _)
      refine lv_icmp_ge (tgt := 33) hx hb d_Fo_isPlain_6 (by decide) (fun c_6 => ?_) (fun c_6 => ?_)
      · have n_6 : (a + n) ≤ k := (nI_leI (a := (a + n)) (b := k) (by omega) (by omega)).mp c_6
        refine lv_iconst (v := 1) hx hb d_Fo_isPlain_33 (by decide) ?_
        rw [← hQe]
        exact W.zret (v := 1) hx hb hr nz_b1 (fun t ht hW => ⟨⟨_, (), rfl, Or.inl ⟨rfl, fun i z1 z2 => hq i z1 (by omega)⟩, by rw [ht]; exact hP, va_K.moved hW.alike hK, hD⟩, hS.F ht⟩) hS.2.2 d_Fo_isPlain_34
      · have n_6 : k < (a + n) := Nat.lt_of_not_le (fun z => c_6 ((nI_leI (a := (a + n)) (b := k) (by omega) (by omega)).mpr z))
        refine lv_aload_n hx hb d_Fo_isPlain_9 rfl (lv_at hl 0 rfl) ?_
        refine lv_iload_n hx hb d_Fo_isPlain_10 rfl (lv_at hl 3 rfl) ?_
        refine va_bald hx hb hK hP 0 1 rfl rfl (vp_in_nI (by omega) (by omega)) d_Fo_isPlain_11 ?_
        rw [show (nI k).toNatClampNeg = k from nI_clamp (by omega)]
        refine lv_bipush (v := 33) hx hb d_Fo_isPlain_12 (by decide) ?_
        refine lv_icmp_lt (tgt := 25) hx hb d_Fo_isPlain_14 (by decide) (fun c_14 => ?_) (fun c_14 => ?_)
        · have hno : ¬ plain f a n := fun z => (z k hk1 n_6).1 c_14
          refine lv_iconst (v := 0) hx hb d_Fo_isPlain_25 (by decide) ?_
          rw [← hQe]
          exact W.zret (v := 0) hx hb hr nz_b0 (fun t ht hW => ⟨⟨_, (), rfl, Or.inr ⟨rfl, hno⟩, by rw [ht]; exact hP, va_K.moved hW.alike hK, hD⟩, hS.F ht⟩) hS.2.2 d_Fo_isPlain_26
        · refine lv_aload_n hx hb d_Fo_isPlain_17 rfl (lv_at hl 0 rfl) ?_
          refine lv_iload_n hx hb d_Fo_isPlain_18 rfl (lv_at hl 3 rfl) ?_
          refine va_bald hx hb hK hP 0 1 rfl rfl (vp_in_nI (by omega) (by omega)) d_Fo_isPlain_19 ?_
          rw [show (nI k).toNatClampNeg = k from nI_clamp (by omega)]
          refine lv_bipush (v := 126) hx hb d_Fo_isPlain_20 (by decide) ?_
          refine lv_icmp_le (tgt := 27) hx hb d_Fo_isPlain_22 (by decide) (fun c_22 => ?_) (fun c_22 => ?_)
          · refine lv_iinc (v := nI (k + 1)) (lv' := [(3, .int (nI (k + 1))), (0, .ref p1), (1, .int (nI a)), (2, .int (nI n))]) hx hb d_Fo_isPlain_27 hl (k := 3) rfl (by exact nI_add _ _) (by decide) rfl (fun ls hl => ?_)
            refine lv_goto (tgt := 2) hx hb d_Fo_isPlain_30 (by decide) ?_
            exact ih_2 (k + 1) _ _ _ (by omega) (by omega) (by omega) (fun i z1 z2 => if h9 : i = k then h9 ▸ ⟨c_14, c_22⟩ else hq i z1 (by omega)) hP hD hS (lv_sub hl [1, 2, 3, 0] rfl)
          · have hno : ¬ plain f a n := fun z => c_22 (z k hk1 n_6).2
            refine lv_iconst (v := 0) hx hb d_Fo_isPlain_25 (by decide) ?_
            rw [← hQe]
            exact W.zret (v := 0) hx hb hr nz_b0 (fun t ht hW => ⟨⟨_, (), rfl, Or.inr ⟨rfl, hno⟩, by rw [ht]; exact hP, va_K.moved hW.alike hK, hD⟩, hS.F ht⟩) hS.2.2 d_Fo_isPlain_26
  exact loop_2 _ a _ _ _ (Nat.lt_succ_self _) (Nat.le_refl _) (by omega) (fun i z1 z2 => absurd z2 (by omega)) hP hD hS (lv_sub hl [1, 2, 3, 0] rfl)
set_option maxHeartbeats 4000000 in
set_option maxRecDepth 100000 in
/-- behind a name -/
theorem m_Fo_nameEnd (l : Launch) (dC : Nat → ClassId) (dI : Nat → Nat → Nat) (cI cB cL cZ cR : ClassId) (h sk b_y : Nat) (sk_from sk_firstDependency sk_firstChange sk_dependencies sk_hashes sk_byHash sk_leansOn sk_leantBy sk_changes sk_lines sk_patches : Value) (f : Nat → Int32) (en a : Nat) (le : Int32) (sz : Nat) (he : en ≤ 290000) (ha : a < 400000) (hle : ¬ le < 0) : Met l y_Fo_nameEnd ws_Fo_nameEnd ({ frames := 1, cells := 0, slots := 0, locals := 60 }) (xw_Pc dC dI [(cI, .int), (cB, .byte), (cL, .long), (cZ, .boolean), (cR, .object "PatchStore$Repository")] [.ref h, .int (nI a), .int (nI en), .int le] [(h, .inr (2, [.ref sk])), (sk, .inr (9, [.ref b_y, sk_from, sk_firstDependency, sk_firstChange, sk_dependencies, sk_hashes, sk_byHash, sk_leansOn, sk_leantBy, sk_changes, sk_lines, sk_patches])), (b_y, .inl (cB, 290000, .inl f))] sz) (va_Qi (fun (r : Int32) (u : Nat) => (nmR f en le a u ∧ r = nI u) ∨ (r = -1 ∧ ∀ q, ¬ nmR f en le a q)) (fun _ t => xw_B dC dI [(cI, .int), (cB, .byte), (cL, .long), (cZ, .boolean), (cR, .object "PatchStore$Repository")] (va_A [(h, .inr (2, [.ref sk])), (sk, .inr (9, [.ref b_y, sk_from, sk_firstDependency, sk_firstChange, sk_dependencies, sk_hashes, sk_byHash, sk_leansOn, sk_leantBy, sk_changes, sk_lines, sk_patches])), (b_y, .inl (cB, 290000, .inl f))] sz) [(h, .inr (2, [.ref sk])), (sk, .inr (9, [.ref b_y, sk_from, sk_firstDependency, sk_firstChange, sk_dependencies, sk_hashes, sk_byHash, sk_leansOn, sk_leantBy, sk_changes, sk_lines, sk_patches])), (b_y, .inl (cB, 290000, .inl f))] t) (va_A [(h, .inr (2, [.ref sk])), (sk, .inr (9, [.ref b_y, sk_from, sk_firstDependency, sk_firstChange, sk_dependencies, sk_hashes, sk_byHash, sk_leansOn, sk_leantBy, sk_changes, sk_lines, sk_patches])), (b_y, .inl (cB, 290000, .inl f))] sz)) 0 0 (va_A [(h, .inr (2, [.ref sk])), (sk, .inr (9, [.ref b_y, sk_from, sk_firstDependency, sk_firstChange, sk_dependencies, sk_hashes, sk_byHash, sk_leansOn, sk_leantBy, sk_changes, sk_lines, sk_patches])), (b_y, .inl (cB, 290000, .inl f))] sz) := by
  refine Met.ofW (cc := prog_3_method_7_code) (maxL := 5) (ret := (Option.some Jvm.ClassFile.FieldType.int)) (by decide) rfl ?_
  intro p e s m args below meth c s₁ B hml hv
  obtain ⟨rfl, hsz, hP, hK, hD0⟩ := hv
  have hx := B.exec
  have hb := B.bytes
  have hr := B.returns
  have hts0 := atoms_spec (ws := ws_Fo_nameEnd) B.pre
  have hts : ∀ w ∈ xg_1, w.before _ s = true := fun w h => hts0 w (List.mem_cons_of_mem _ h)
  have hown : s.vm.findClass "PatchStore$Form" = some m.cls := findClass_of_methodNamed B.named
  have hlocks := B.notSynchronized
  subst hsz
  have hD := hD0.self (sz := s.heap.size)
  generalize hAe : va_A [(h, .inr (2, [.ref sk])), (sk, .inr (9, [.ref b_y, sk_from, sk_firstDependency, sk_firstChange, sk_dependencies, sk_hashes, sk_byHash, sk_leansOn, sk_leantBy, sk_changes, sk_lines, sk_patches])), (b_y, .inl (cB, 290000, .inl f))] s.heap.size = A at hD ⊢
  have hA : ∀ q : Nat, s.heap.size ≤ q → A q := fun q h => by rw [← hAe]; exact Or.inr h
  have hS : va_S A s.heap s.heap [] := va_S.rf
  have hl := lv_entry ([.ref h, .int (nI a), .int (nI en), .int le]) (n := 5) (Nat.le_of_ble_eq_true rfl)
  rw [lg_entry_eq]
  generalize (lg_sl ([.ref h, .int (nI a), .int (nI en), .int le]) ++ List.replicate (5 - (lg_sl ([.ref h, .int (nI a), .int (nI en), .int le])).length) Slot.unset).toArray = ls at hl ⊢
  have hl : lv_has ls 5 [(0, .ref h), (1, .int (nI a)), (2, .int (nI en)), (3, .int le)] := hl
  generalize hQe : MQ _ _ _ _ _ _ _ = Q
  refine lv_iload_n hx hb d_Fo_nameEnd_0 rfl (lv_at hl 1 rfl) ?_
  refine lv_iload_n hx hb d_Fo_nameEnd_1 rfl (lv_at hl 2 rfl) ?_
  refine lv_icmp_lt (tgt := 7) hx hb d_Fo_nameEnd_2 (by decide) (fun c_2 => ?_) (fun c_2 => ?_)
  · have n_2 : a < en := (nI_ltI (a := a) (b := en) (by omega) (by omega)).mp c_2
    refine lv_aload_n hx hb d_Fo_nameEnd_7 rfl (lv_at hl 0 rfl) ?_
    refine va_get (D := (dC, dI)) (ci := 2) (v := .ref sk) (C := R_Fo) (T := F_Fo) (N := 1) hx hb hts i_Fo hown hK hP 0 rfl rfl 0 (by decide) (hts _ gw_280) (fun _ h9 => h9) rfl d_Fo_nameEnd_8 ?_
    refine va_get (D := (dC, dI)) (ci := 9) (v := .ref b_y) (C := R_St) (T := F_St) (N := 12) hx hb hts i_St hown hK hP 1 rfl rfl 0 (by decide) (hts _ gw_186) (fun _ h9 => h9) rfl d_Fo_nameEnd_11 ?_
    refine lv_iload_n hx hb d_Fo_nameEnd_14 rfl (lv_at hl 1 rfl) ?_
    refine va_bald hx hb hK hP 2 1 rfl rfl (vp_in_nI (by omega) (by omega)) d_Fo_nameEnd_15 ?_
    rw [show (nI a).toNatClampNeg = a from nI_clamp (by omega)]
    refine lv_istore (lv' := [(4, .int (f a)), (0, .ref h), (1, .int (nI a)), (2, .int (nI en)), (3, .int le)]) hx hb d_Fo_nameEnd_16 hl (by decide) rfl (fun ls hl => ?_)
    refine lv_iload hx hb d_Fo_nameEnd_18 (lv_at hl 0 rfl) ?_
    refine lv_iload_n hx hb d_Fo_nameEnd_20 rfl (lv_at hl 4 rfl) ?_
    refine lv_icmp_lt (tgt := 41) hx hb d_Fo_nameEnd_21 (by decide) (fun c_21 => ?_) (fun c_21 => ?_)
    · have hno : ∀ q, ¬ nmR f en le a q := fun q z => by obtain ⟨-, n, -, -, z, -⟩ := z; exact z c_21
      refine lv_iconst (v := (-1)) hx hb d_Fo_nameEnd_41 (by decide) ?_
      rw [← hQe]
      exact W.iret (v := (-1)) hx hb hr (fun t ht hW => ⟨⟨_, 0, rfl, Or.inr ⟨rfl, hno⟩, by rw [ht]; exact hP, va_K.moved hW.alike hK, hD⟩, hS.F ht⟩) hS.2.2 d_Fo_nameEnd_42
    · refine lv_iload hx hb d_Fo_nameEnd_24 (lv_at hl 0 rfl) ?_
      refine lv_bipush (v := 64) hx hb d_Fo_nameEnd_26 (by decide) ?_
      refine lv_icmp_gt (tgt := 41) hx hb d_Fo_nameEnd_28 (by decide) (fun c_28 => ?_) (fun c_28 => ?_)
      · have hno : ∀ q, ¬ nmR f en le a q := fun q z => by
          obtain ⟨-, n, hn, z, -⟩ := z
          rw [z] at c_28
          exact absurd ((nI_ltI (a := 64) (by omega) (by omega)).mp c_28) (by omega)
        refine lv_iconst (v := (-1)) hx hb d_Fo_nameEnd_41 (by decide) ?_
        rw [← hQe]
        exact W.iret (v := (-1)) hx hb hr (fun t ht hW => ⟨⟨_, 0, rfl, Or.inr ⟨rfl, hno⟩, by rw [ht]; exact hP, va_K.moved hW.alike hK, hD⟩, hS.F ht⟩) hS.2.2 d_Fo_nameEnd_42
      · obtain ⟨n, hn, hfa⟩ : ∃ n, n ≤ 64 ∧ f a = nI n := nI_of2 (M := 64) rfl (fun z => hle (Int32.lt_of_le_of_lt (Int32.not_lt.mp c_21) z)) (Int32.not_lt.mp c_28)
        rw [hfa] at hl
        refine lv_iload_n hx hb d_Fo_nameEnd_31 rfl (lv_at hl 2 rfl) ?_
        refine lv_iconst (v := 1) hx hb d_Fo_nameEnd_32 (by decide) ?_
        refine lv_iadd hx hb d_Fo_nameEnd_33 ?_
        refine lv_topi (fun x_1 ex_1 => ?_)
        obtain rfl : x_1 = nI (a + 1) := by rw [ex_1]; first | done | (exact nI_add _ _)
        refine lv_iload hx hb d_Fo_nameEnd_34 (lv_at hl 0 rfl) ?_
        refine lv_iadd hx hb d_Fo_nameEnd_36 ?_
        refine lv_topi (fun x_2 ex_2 => ?_)
        obtain rfl : x_2 = nI (a + 1 + n) := by rw [ex_2]; first | done | (exact nI_add _ _)
        refine lv_iload_n hx hb d_Fo_nameEnd_37 rfl (lv_at hl 3 rfl) ?_
        refine lv_icmp_le (tgt := 43) hx hb d_Fo_nameEnd_38 (by decide) (fun c_38 => ?_) (fun c_38 => ?_)
        · have n_38 : (a + 1 + n) ≤ en := (nI_leI (a := (a + 1 + n)) (b := en) (by omega) (by omega)).mp c_38
          refine lv_aload_n hx hb d_Fo_nameEnd_43 rfl (lv_at hl 1 rfl) ?_
          refine va_get (D := (dC, dI)) (ci := 2) (v := .ref sk) (C := R_Fo) (T := F_Fo) (N := 1) hx hb hts i_Fo hown hK hP 0 rfl rfl 0 (by decide) (hts _ gw_280) (fun _ h9 => h9) rfl d_Fo_nameEnd_44 ?_
          refine va_get (D := (dC, dI)) (ci := 9) (v := .ref b_y) (C := R_St) (T := F_St) (N := 12) hx hb hts i_St hown hK hP 1 rfl rfl 0 (by decide) (hts _ gw_186) (fun _ h9 => h9) rfl d_Fo_nameEnd_47 ?_
          refine lv_iload_n hx hb d_Fo_nameEnd_50 rfl (lv_at hl 2 rfl) ?_
          refine lv_iconst (v := 1) hx hb d_Fo_nameEnd_51 (by decide) ?_
          refine lv_iadd hx hb d_Fo_nameEnd_52 ?_
          refine lv_topi (fun x_3 ex_3 => ?_)
          obtain rfl : x_3 = nI (a + 1) := by rw [ex_3]; first | done | (exact nI_add _ _)
          refine lv_iload hx hb d_Fo_nameEnd_53 (lv_at hl 0 rfl) ?_
          have hPc := hP.sub (ws' := [(b_y, .inl (cB, 290000, .inl f))]) [2] rfl
          have hDc := hD.sub (ws' := [(b_y, .inl (cB, 290000, .inl f))]) [2] (by decide) rfl
          have hFc := va_free (wc := [(b_y, .inl (cB, 290000, .inl f))]) hD hS hA [2] rfl
          refine va_calli (va_runS (As := [.ref b_y, .int (nI (a + 1)), .int (nI n)]) (rest := []) ⟨hx, hb, hml, hown, hts⟩ (m_Fo_isPlain l dC dI cI cB cL cZ cR b_y 290000 f (a + 1) n s.heap.size (by decide) (by omega)) ⟨callB_of 3 hts (xg_in gw_725) rfl rfl rfl (hts _ gw_7) (hts _ gw_794) (by decide +kernel) ⟨Nat.le_of_ble_eq_true rfl, Nat.le_of_ble_eq_true rfl⟩, hts _ gw_724⟩ ⟨xw_blind, fun U hU hW => ⟨rfl, by rw [hU], by rw [hU]; exact hPc, va_K.moved hW.alike hK, hDc.weaken (fun _ _ _ _ => trivial)⟩⟩ rfl rfl hl.1 rfl (lv_room (Nat.le_of_ble_eq_true rfl)) d_Fo_nameEnd_55 ⟨Nat.le_of_ble_eq_true rfl, Nat.le_of_ble_eq_true rfl⟩) hS (fun q _ h => hFc q h) hFc (fun r9 u t H1 locs ht hvm hw hB hz1 hk1 hS => ?_)
          obtain ⟨hP1, hK1, hD1⟩ := hB
          rw [ht] at hP1
          obtain ⟨hP, hD⟩ := va_join (wr := [(h, .inr (2, [.ref sk])), (sk, .inr (9, [.ref b_y, sk_from, sk_firstDependency, sk_firstChange, sk_dependencies, sk_hashes, sk_byHash, sk_leansOn, sk_leantBy, sk_changes, sk_lines, sk_patches]))]) (w1 := [(b_y, .inl (cB, 290000, .inl f))]) hP hD [2] [0, 1] rfl rfl (by decide) (by decide) hk1 hFc hP1 hD1
          generalize H1 = H at hP hS ⊢
          have hP : va_P (dC, dI) classes [(h, .inr (2, [.ref sk])), (sk, .inr (9, [.ref b_y, sk_from, sk_firstDependency, sk_firstChange, sk_dependencies, sk_hashes, sk_byHash, sk_leansOn, sk_leantBy, sk_changes, sk_lines, sk_patches])), (b_y, .inl (cB, 290000, .inl f))] H := hP
          have hD : va_D A [(h, .inr (2, [.ref sk])), (sk, .inr (9, [.ref b_y, sk_from, sk_firstDependency, sk_firstChange, sk_dependencies, sk_hashes, sk_byHash, sk_leansOn, sk_leantBy, sk_changes, sk_lines, sk_patches])), (b_y, .inl (cB, 290000, .inl f))] := hD
          rcases hw with ⟨rfl, hpl⟩ | ⟨rfl, hpl⟩
          · have hP : va_P (dC, dI) classes [(h, .inr (2, [.ref sk])), (sk, .inr (9, [.ref b_y, sk_from, sk_firstDependency, sk_firstChange, sk_dependencies, sk_hashes, sk_byHash, sk_leansOn, sk_leantBy, sk_changes, sk_lines, sk_patches])), (b_y, .inl (cB, 290000, .inl f))] H := hP
            have hD : va_D A [(h, .inr (2, [.ref sk])), (sk, .inr (9, [.ref b_y, sk_from, sk_firstDependency, sk_firstChange, sk_dependencies, sk_hashes, sk_byHash, sk_leansOn, sk_leantBy, sk_changes, sk_lines, sk_patches])), (b_y, .inl (cB, 290000, .inl f))] := hD
            refine lv_if_eq (tgt := 70) hx hb d_Fo_nameEnd_58 (by decide) (fun c_58 => absurd c_58 (by decide)) (fun _ => ?_)
            refine lv_iload_n hx hb d_Fo_nameEnd_61 rfl (lv_at hl 2 rfl) ?_
            refine lv_iconst (v := 1) hx hb d_Fo_nameEnd_62 (by decide) ?_
            refine lv_iadd hx hb d_Fo_nameEnd_63 ?_
            refine lv_topi (fun x_4 ex_4 => ?_)
            obtain rfl : x_4 = nI (a + 1) := by rw [ex_4]; first | done | (exact nI_add _ _)
            refine lv_iload hx hb d_Fo_nameEnd_64 (lv_at hl 0 rfl) ?_
            refine lv_iadd hx hb d_Fo_nameEnd_66 ?_
            refine lv_topi (fun x_5 ex_5 => ?_)
            obtain rfl : x_5 = nI (a + 1 + n) := by rw [ex_5]; first | done | (exact nI_add _ _)
            refine lv_goto (tgt := 71) hx hb d_Fo_nameEnd_67 (by decide) ?_
            rw [← hQe]
            exact W.iret (v := nI (a + 1 + n)) hx hb hr (fun t ht hW => ⟨⟨_, (a + 1 + n), rfl, Or.inl ⟨⟨n_2, n, hn, hfa, c_21, n_38, hpl, rfl⟩, rfl⟩, by rw [ht]; exact hP, va_K.moved hW.alike hK, hD⟩, hS.F ht⟩) hS.2.2 d_Fo_nameEnd_71
          · have hP : va_P (dC, dI) classes [(h, .inr (2, [.ref sk])), (sk, .inr (9, [.ref b_y, sk_from, sk_firstDependency, sk_firstChange, sk_dependencies, sk_hashes, sk_byHash, sk_leansOn, sk_leantBy, sk_changes, sk_lines, sk_patches])), (b_y, .inl (cB, 290000, .inl f))] H := hP
            have hD : va_D A [(h, .inr (2, [.ref sk])), (sk, .inr (9, [.ref b_y, sk_from, sk_firstDependency, sk_firstChange, sk_dependencies, sk_hashes, sk_byHash, sk_leansOn, sk_leantBy, sk_changes, sk_lines, sk_patches])), (b_y, .inl (cB, 290000, .inl f))] := hD
            refine lv_if_eq (tgt := 70) hx hb d_Fo_nameEnd_58 (by decide) (fun _ => ?_) (fun c_58 => absurd (by decide) c_58)
            refine lv_iconst (v := (-1)) hx hb d_Fo_nameEnd_70 (by decide) ?_
            rw [← hQe]
            exact W.iret (v := (-1)) hx hb hr (fun t ht hW => ⟨⟨_, 0, rfl, Or.inr ⟨rfl, fun q z => by obtain ⟨-, k, hk, z, -, -, z2, -⟩ := z; have := (nI_eq (by omega) (by omega)).mp (z.symm.trans hfa); subst this; exact hpl z2⟩, by rw [ht]; exact hP, va_K.moved hW.alike hK, hD⟩, hS.F ht⟩) hS.2.2 d_Fo_nameEnd_71
        · have n_38 : en < (a + 1 + n) := Nat.lt_of_not_le (fun z => c_38 ((nI_leI (a := (a + 1 + n)) (b := en) (by omega) (by omega)).mpr z))
          have hno : ∀ q, ¬ nmR f en le a q := fun q z => by
            obtain ⟨-, k, hk, z, -, z2, -⟩ := z
            have := (nI_eq (by omega) (by omega)).mp (z.symm.trans hfa)
            omega
          refine lv_iconst (v := (-1)) hx hb d_Fo_nameEnd_41 (by decide) ?_
          rw [← hQe]
          exact W.iret (v := (-1)) hx hb hr (fun t ht hW => ⟨⟨_, 0, rfl, Or.inr ⟨rfl, hno⟩, by rw [ht]; exact hP, va_K.moved hW.alike hK, hD⟩, hS.F ht⟩) hS.2.2 d_Fo_nameEnd_42
  · have n_2 : en ≤ a := Nat.le_of_not_lt (fun z => c_2 ((nI_ltI (a := a) (b := en) (by omega) (by omega)).mpr z))
    have hno : ∀ q, ¬ nmR f en le a q := fun q z => by have := z.1; omega
    refine lv_iconst (v := (-1)) hx hb d_Fo_nameEnd_5 (by decide) ?_
    rw [← hQe]
    exact W.iret (v := (-1)) hx hb hr (fun t ht hW => ⟨⟨_, 0, rfl, Or.inr ⟨rfl, hno⟩, by rw [ht]; exact hP, va_K.moved hW.alike hK, hD⟩, hS.F ht⟩) hS.2.2 d_Fo_nameEnd_6
end
