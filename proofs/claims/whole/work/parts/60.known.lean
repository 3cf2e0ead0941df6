/-! 60.known.lean.txt -/
theorem gw_205 : (Jvm.Cond.fieldLink "PatchStore$Intake" (122 : Nat) "PatchStore$Stock" "hashes" "[B") ∈ xg_1 := xg_s1 205 rfl rfl
theorem gw_833 : (Jvm.Cond.methodLink "PatchStore$Intake" (113 : Nat) ({ cls := "PatchStore$Sha256", name := "begin", desc := "()V" } : Jvm.MethodName)) ∈ xg_1 := xg_s4 113 rfl rfl
theorem gw_839 : (Jvm.Cond.methodLink "PatchStore$Intake" (118 : Nat) ({ cls := "PatchStore$Sha256", name := "take", desc := "([BII)V" } : Jvm.MethodName)) ∈ xg_1 := xg_s4 119 rfl rfl
theorem gw_840 : (Jvm.Cond.instanceMethod ({ cls := "PatchStore$Sha256", name := "take", desc := "([BII)V" } : Jvm.MethodName)) ∈ xg_1 := xg_s4 120 rfl rfl
theorem gw_841 : (Jvm.Cond.selects "PatchStore$Sha256" ({ cls := "PatchStore$Sha256", name := "take", desc := "([BII)V" } : Jvm.MethodName) ({ cls := "PatchStore$Sha256", name := "take", desc := "([BII)V" } : Jvm.MethodName)) ∈ xg_1 := xg_s4 121 rfl rfl
theorem gw_842 : (Jvm.Cond.code ({ cls := "PatchStore$Sha256", name := "take", desc := "([BII)V" } : Jvm.MethodName) prog_9_method_3_code (5 : Nat) (Option.none : Option Jvm.ClassFile.FieldType)) ∈ xg_1 := xg_s4 122 rfl rfl
theorem gw_857 : (Jvm.Cond.methodLink "PatchStore$Intake" (125 : Nat) ({ cls := "PatchStore$Sha256", name := "finish", desc := "([BI)V" } : Jvm.MethodName)) ∈ xg_1 := xg_s4 137 rfl rfl
def y_In_findKnown : MethodName := ⟨"PatchStore$Intake", "findKnown", "()I"⟩
abbrev c_In_findKnown : Cond := (Jvm.Cond.code ({ cls := "PatchStore$Intake", name := "findKnown", desc := "()I" } : Jvm.MethodName) prog_4_method_4_code (3 : Nat) (Option.some Jvm.ClassFile.FieldType.int))
abbrev ws_In_findKnown : List Cond := c_In_findKnown :: xg_1
theorem d_In_findKnown_0 : decode prog_4_method_4_code 0 = .ok (.aload_n 0, 1) := by decide +kernel
theorem d_In_findKnown_1 : decode prog_4_method_4_code 1 = .ok (.getfield 18, 3) := by decide +kernel
theorem d_In_findKnown_4 : decode prog_4_method_4_code 4 = .ok (.getfield 88, 3) := by decide +kernel
theorem d_In_findKnown_7 : decode prog_4_method_4_code 7 = .ok (.aload_n 0, 1) := by decide +kernel
theorem d_In_findKnown_8 : decode prog_4_method_4_code 8 = .ok (.getfield 18, 3) := by decide +kernel
theorem d_In_findKnown_11 : decode prog_4_method_4_code 11 = .ok (.getfield 84, 3) := by decide +kernel
theorem d_In_findKnown_14 : decode prog_4_method_4_code 14 = .ok (.iaload, 1) := by decide +kernel
theorem d_In_findKnown_15 : decode prog_4_method_4_code 15 = .ok (.istore_n 1, 1) := by decide +kernel
theorem d_In_findKnown_16 : decode prog_4_method_4_code 16 = .ok (.aload_n 0, 1) := by decide +kernel
theorem d_In_findKnown_17 : decode prog_4_method_4_code 17 = .ok (.getfield 18, 3) := by decide +kernel
theorem d_In_findKnown_20 : decode prog_4_method_4_code 20 = .ok (.getfield 84, 3) := by decide +kernel
theorem d_In_findKnown_23 : decode prog_4_method_4_code 23 = .ok (.bipush 32, 2) := by decide +kernel
theorem d_In_findKnown_25 : decode prog_4_method_4_code 25 = .ok (.imul, 1) := by decide +kernel
theorem d_In_findKnown_26 : decode prog_4_method_4_code 26 = .ok (.istore_n 2, 1) := by decide +kernel
theorem d_In_findKnown_27 : decode prog_4_method_4_code 27 = .ok (.aload_n 0, 1) := by decide +kernel
theorem d_In_findKnown_28 : decode prog_4_method_4_code 28 = .ok (.getfield 34, 3) := by decide +kernel
theorem d_In_findKnown_31 : decode prog_4_method_4_code 31 = .ok (.invokevirtual 113, 3) := by decide +kernel
theorem d_In_findKnown_34 : decode prog_4_method_4_code 34 = .ok (.aload_n 0, 1) := by decide +kernel
theorem d_In_findKnown_35 : decode prog_4_method_4_code 35 = .ok (.getfield 34, 3) := by decide +kernel
theorem d_In_findKnown_38 : decode prog_4_method_4_code 38 = .ok (.aload_n 0, 1) := by decide +kernel
theorem d_In_findKnown_39 : decode prog_4_method_4_code 39 = .ok (.getfield 18, 3) := by decide +kernel
theorem d_In_findKnown_42 : decode prog_4_method_4_code 42 = .ok (.getfield 98, 3) := by decide +kernel
theorem d_In_findKnown_45 : decode prog_4_method_4_code 45 = .ok (.iload_n 1, 1) := by decide +kernel
theorem d_In_findKnown_46 : decode prog_4_method_4_code 46 = .ok (.aload_n 0, 1) := by decide +kernel
theorem d_In_findKnown_47 : decode prog_4_method_4_code 47 = .ok (.getfield 18, 3) := by decide +kernel
theorem d_In_findKnown_50 : decode prog_4_method_4_code 50 = .ok (.getfield 88, 3) := by decide +kernel
theorem d_In_findKnown_53 : decode prog_4_method_4_code 53 = .ok (.aload_n 0, 1) := by decide +kernel
theorem d_In_findKnown_54 : decode prog_4_method_4_code 54 = .ok (.getfield 18, 3) := by decide +kernel
theorem d_In_findKnown_57 : decode prog_4_method_4_code 57 = .ok (.getfield 84, 3) := by decide +kernel
theorem d_In_findKnown_60 : decode prog_4_method_4_code 60 = .ok (.iconst 1, 1) := by decide +kernel
theorem d_In_findKnown_61 : decode prog_4_method_4_code 61 = .ok (.iadd, 1) := by decide +kernel
theorem d_In_findKnown_62 : decode prog_4_method_4_code 62 = .ok (.iaload, 1) := by decide +kernel
theorem d_In_findKnown_63 : decode prog_4_method_4_code 63 = .ok (.iload_n 1, 1) := by decide +kernel
theorem d_In_findKnown_64 : decode prog_4_method_4_code 64 = .ok (.isub, 1) := by decide +kernel
theorem d_In_findKnown_65 : decode prog_4_method_4_code 65 = .ok (.invokevirtual 118, 3) := by decide +kernel
theorem d_In_findKnown_68 : decode prog_4_method_4_code 68 = .ok (.aload_n 0, 1) := by decide +kernel
theorem d_In_findKnown_69 : decode prog_4_method_4_code 69 = .ok (.getfield 34, 3) := by decide +kernel
theorem d_In_findKnown_72 : decode prog_4_method_4_code 72 = .ok (.aload_n 0, 1) := by decide +kernel
theorem d_In_findKnown_73 : decode prog_4_method_4_code 73 = .ok (.getfield 18, 3) := by decide +kernel
theorem d_In_findKnown_76 : decode prog_4_method_4_code 76 = .ok (.getfield 122, 3) := by decide +kernel
theorem d_In_findKnown_79 : decode prog_4_method_4_code 79 = .ok (.iload_n 2, 1) := by decide +kernel
theorem d_In_findKnown_80 : decode prog_4_method_4_code 80 = .ok (.invokevirtual 125, 3) := by decide +kernel
theorem d_In_findKnown_83 : decode prog_4_method_4_code 83 = .ok (.aload_n 0, 1) := by decide +kernel
theorem d_In_findKnown_84 : decode prog_4_method_4_code 84 = .ok (.getfield 18, 3) := by decide +kernel
theorem d_In_findKnown_87 : decode prog_4_method_4_code 87 = .ok (.aload_n 0, 1) := by decide +kernel
theorem d_In_findKnown_88 : decode prog_4_method_4_code 88 = .ok (.getfield 18, 3) := by decide +kernel
theorem d_In_findKnown_91 : decode prog_4_method_4_code 91 = .ok (.getfield 122, 3) := by decide +kernel
theorem d_In_findKnown_94 : decode prog_4_method_4_code 94 = .ok (.iload_n 2, 1) := by decide +kernel
theorem d_In_findKnown_95 : decode prog_4_method_4_code 95 = .ok (.invokevirtual 102, 3) := by decide +kernel
theorem d_In_findKnown_98 : decode prog_4_method_4_code 98 = .ok (.ireturn, 1) := by decide +kernel
/-- two states of the hash that go on alike -/
def sh_eq (s s' : sh_S) : Prop := s.2.2 = s'.2.2 ∧ s.2.2 < 64 ∧ (∀ j, j < 8 → s.1 j = s'.1 j) ∧ ∀ j, j < s.2.2 → s.2.1 j = s'.2.1 j
theorem sh_eq.put1 {s s' : sh_S} (v : Int32) (h : sh_eq s s') : sh_eq (sh_put1 v s) (sh_put1 v s') := by
  obtain ⟨f, b, F⟩ := s
  obtain ⟨f', b', F'⟩ := s'
  obtain ⟨h1, h2, h3, h4⟩ := h
  dsimp only at h1 h2 h3 h4
  subst h1
  unfold sh_put1
  dsimp only
  have hu : ∀ j, j < F + 1 → upd b F v j = upd b' F v j := fun j hj => by
    by_cases e : j = F
    · subst e; rw [upd_eq, upd_eq]
    · rw [upd_ne _ e, upd_ne _ e]; exact h4 j (by omega)
  by_cases h5 : F + 1 < 64
  · rw [if_pos h5, if_pos h5]; exact ⟨rfl, h5, h3, hu⟩
  · rw [if_neg h5, if_neg h5]; exact ⟨rfl, by show (0 : Nat) < 64; decide, sh_comp_congr h3 (fun j hj => hu j (by omega)), fun j hj => absurd hj (Nat.not_lt_zero _)⟩
theorem sh_eq.puts {s s' : sh_S} {g g' : Nat → Int32} {a a' : Nat} (h : sh_eq s s') : ∀ M, (∀ k, k < M → g (a + k) = g' (a' + k)) → sh_eq (sh_puts g a M s) (sh_puts g' a' M s')
  | 0, _ => h
  | M + 1, hg => by
    show sh_eq (sh_put1 (g (a + M)) (sh_puts g a M s)) (sh_put1 (g' (a' + M)) (sh_puts g' a' M s'))
    rw [hg M (by omega)]
    exact (sh_eq.puts h M (fun k hk => hg k (by omega))).put1 _
theorem sh_eq.zeros {s s' : sh_S} (h : sh_eq s s') : ∀ M, sh_eq (sh_zeros M s) (sh_zeros M s')
  | 0 => h
  | M + 1 => (sh_eq.zeros h M).put1 0
theorem sh_eq.lens {s s' : sh_S} (tk : Int32) (h : sh_eq s s') : ∀ M, sh_eq (sh_lens tk M s) (sh_lens tk M s')
  | 0 => h
  | M + 1 => (sh_eq.lens tk h M).put1 _
theorem sh_eq.fin {s s' : sh_S} (tk : Int32) (h : sh_eq s s') : sh_eq (sh_fin tk s) (sh_fin tk s') := by
  unfold sh_fin
  have h1 := h.put1 (-128)
  rw [h1.1]
  exact (h1.zeros _).lens tk 8
/-- the digest of M bytes of g from a on, as eight words -/
def dg (g : Nat → Int32) (a M : Nat) : Nat → Int32 := (sh_fin (nI M) (sh_puts g a M (sh_START, fun _ => 0, 0))).1
theorem dg_of {f1 b0 g : Nat → Int32} {a M : Nat} {s1 s2 : sh_S} (hf : ∀ j, j < 8 → f1 j = sh_START j) (h1 : sh_puts g a M (f1, b0, 0) = s1) (h2 : sh_fin (nI M) s1 = s2) : ∀ j, j < 8 → s2.1 j = dg g a M j := by
  have h0 : sh_eq (f1, b0, 0) (sh_START, fun _ => 0, 0) := ⟨rfl, by show (0 : Nat) < 64; decide, hf, fun j hj => absurd hj (Nat.not_lt_zero _)⟩
  have h3 := ((h0.puts (g := g) (g' := g) (a := a) (a' := a) M (fun _ _ => rfl)).fin (nI M)).2.2.1
  rw [h1, h2] at h3
  exact h3
theorem dg_congr {g g' : Nat → Int32} {a a' M : Nat} (h : ∀ k, k < M → g (a + k) = g' (a' + k)) : ∀ j, j < 8 → dg g a M j = dg g' a' M j := by
  have h0 : sh_eq (sh_START, fun _ => 0, 0) (sh_START, fun _ => 0, 0) := ⟨rfl, by show (0 : Nat) < 64; decide, fun _ _ => rfl, fun _ _ => rfl⟩
  exact ((h0.puts M h).fin (nI M)).2.2.1
theorem sh_out_congr {f f' : Nat → Int32} (h : ∀ j, j < 8 → f j = f' j) (a : Nat) (g : Nat → Int32) : sh_out f a 32 g = sh_out f' a 32 g := by
  funext j
  unfold sh_out
  by_cases e : a ≤ j ∧ j < a + 32
  · rw [if_pos e, if_pos e]; unfold sh_outb; rw [h ((j - a) / 4) (by omega)]
  · rw [if_neg e, if_neg e]
theorem sq_congr {f g : Nat → Int32} : ∀ (n i j : Nat), (∀ k, k < n → f (i + k) = g (j + k)) → sq f i n = sq g j n
  | 0, _, _, _ => rfl
  | n + 1, i, j, h => by
    show b8 (f i) :: sq f (i + 1) n = b8 (g j) :: sq g (j + 1) n
    rw [show f i = g j from h 0 (by omega), sq_congr n (i + 1) (j + 1) (fun k hk => by
      have := h (k + 1) (by omega)
      rwa [show i + (k + 1) = i + 1 + k by omega, show j + (k + 1) = j + 1 + k by omega] at this)]
theorem sq_out {D hf : Nat → Int32} {a i : Nat} (h : i + 32 ≤ a) : sq (sh_out D a 32 hf) i 32 = sq hf i 32 := sq_congr 32 i i (fun k hk => by unfold sh_out; rw [if_neg (by omega)])
theorem hs_up.out {hf D : Nat → Int32} {Bh : Nat → Nat} {P : Nat} (h : hs_up hf Bh P) (hl : ∀ i, i < P → Bh i < P) : hs_up (sh_out D (P * 32) 32 hf) Bh P := fun i k h1 h2 => by
  have e1 := hl i (by omega)
  have e2 := hl k h2
  rw [sq_out (by omega), sq_out (by omega)]
  exact h i k h1 h2
set_option maxHeartbeats 4000000 in
set_option maxRecDepth 100000 in
/-- whether the candidate is known -/
theorem m_In_findKnown (l : Launch) (dC : Nat → ClassId) (dI : Nat → Nat → Nat) (cI cB cL cZ cR : ClassId) (h sk b_y fr hs bh sh sm wd bl : Nat) (it_changes it_lines it_form it_named it_linesOfFile it_nextFile it_nextLine sk_firstDependency sk_firstChange sk_dependencies sk_leansOn sk_leantBy sk_changes sk_lines fl0 tk0 : Value) (f frf hf bf f0 w0 b0 : Nat → Int32) (P s0 en : Nat) (Bh : Nat → Nat) (sz : Nat) (hs0 : frf P = nI s0) (hen : frf (P + 1) = nI en) (hse : s0 ≤ en) (he : en ≤ 290000) (hP5 : P ≤ 500) (gb : ∀ j, j < 290000 → vp_nar .byte (f j) = f j) (gB : ∀ i, i < P → bf i = nI (Bh i) ∧ Bh i ≤ 500) (gBl : ∀ i, i < P → Bh i < P) (gU : hs_up hf Bh P) : Met l y_In_findKnown ws_In_findKnown ({ frames := 4, cells := 0, slots := 0, locals := 240 }) (xw_Px dC dI [(cI, .int), (cB, .byte), (cL, .long), (cZ, .boolean), (cR, .object "PatchStore$Repository")] [.ref h] [(h, .inr (3, [.ref sk, it_changes, it_lines, .ref sh, it_form, it_named, it_linesOfFile, it_nextFile, it_nextLine])), (sk, .inr (9, [.ref b_y, .ref fr, sk_firstDependency, sk_firstChange, sk_dependencies, .ref hs, .ref bh, sk_leansOn, sk_leantBy, sk_changes, sk_lines, .int (nI P)])), (b_y, .inl (cB, 290000, .inl f)), (fr, .inl (cI, 502, .inl frf)), (hs, .inl (cB, 16032, .inl hf)), (bh, .inl (cI, 500, .inl bf)), (sh, .inr (8, [.ref sm, .ref wd, .ref bl, fl0, tk0])), (sm, .inl (cI, 8, .inl f0)), (wd, .inl (cI, 64, .inl w0)), (bl, .inl (cB, 64, .inl b0))] sz) (va_Qi (fun (r : Int32) (_ : (Nat → Int32) × (Nat → Int32) × (Nat → Int32) × Nat) => pw_ok (sh_out (dg f s0 (en - s0)) (P * 32) 32 hf) (sh_out (dg f s0 (en - s0)) (P * 32) 32 hf) Bh P (P * 32) r) (fun u t => xw_B dC dI [(cI, .int), (cB, .byte), (cL, .long), (cZ, .boolean), (cR, .object "PatchStore$Repository")] (va_A [(h, .inr (3, [.ref sk, it_changes, it_lines, .ref sh, it_form, it_named, it_linesOfFile, it_nextFile, it_nextLine])), (sk, .inr (9, [.ref b_y, .ref fr, sk_firstDependency, sk_firstChange, sk_dependencies, .ref hs, .ref bh, sk_leansOn, sk_leantBy, sk_changes, sk_lines, .int (nI P)])), (b_y, .inl (cB, 290000, .inl f)), (fr, .inl (cI, 502, .inl frf)), (hs, .inl (cB, 16032, .inl hf)), (bh, .inl (cI, 500, .inl bf)), (sh, .inr (8, [.ref sm, .ref wd, .ref bl, fl0, tk0])), (sm, .inl (cI, 8, .inl f0)), (wd, .inl (cI, 64, .inl w0)), (bl, .inl (cB, 64, .inl b0))] sz) [(h, .inr (3, [.ref sk, it_changes, it_lines, .ref sh, it_form, it_named, it_linesOfFile, it_nextFile, it_nextLine])), (sk, .inr (9, [.ref b_y, .ref fr, sk_firstDependency, sk_firstChange, sk_dependencies, .ref hs, .ref bh, sk_leansOn, sk_leantBy, sk_changes, sk_lines, .int (nI P)])), (b_y, .inl (cB, 290000, .inl f)), (fr, .inl (cI, 502, .inl frf)), (hs, .inl (cB, 16032, .inl (sh_out (dg f s0 (en - s0)) (P * 32) 32 hf))), (bh, .inl (cI, 500, .inl bf)), (sh, .inr (8, [.ref sm, .ref wd, .ref bl, .int (nI u.2.2.2), .int (0 + nI (en - s0))])), (sm, .inl (cI, 8, .inl u.1)), (wd, .inl (cI, 64, .inl u.2.1)), (bl, .inl (cB, 64, .inl u.2.2.1))] t) (va_A [(h, .inr (3, [.ref sk, it_changes, it_lines, .ref sh, it_form, it_named, it_linesOfFile, it_nextFile, it_nextLine])), (sk, .inr (9, [.ref b_y, .ref fr, sk_firstDependency, sk_firstChange, sk_dependencies, .ref hs, .ref bh, sk_leansOn, sk_leantBy, sk_changes, sk_lines, .int (nI P)])), (b_y, .inl (cB, 290000, .inl f)), (fr, .inl (cI, 502, .inl frf)), (hs, .inl (cB, 16032, .inl hf)), (bh, .inl (cI, 500, .inl bf)), (sh, .inr (8, [.ref sm, .ref wd, .ref bl, fl0, tk0])), (sm, .inl (cI, 8, .inl f0)), (wd, .inl (cI, 64, .inl w0)), (bl, .inl (cB, 64, .inl b0))] sz)) 0 0 (va_A [(h, .inr (3, [.ref sk, it_changes, it_lines, .ref sh, it_form, it_named, it_linesOfFile, it_nextFile, it_nextLine])), (sk, .inr (9, [.ref b_y, .ref fr, sk_firstDependency, sk_firstChange, sk_dependencies, .ref hs, .ref bh, sk_leansOn, sk_leantBy, sk_changes, sk_lines, .int (nI P)])), (b_y, .inl (cB, 290000, .inl f)), (fr, .inl (cI, 502, .inl frf)), (hs, .inl (cB, 16032, .inl hf)), (bh, .inl (cI, 500, .inl bf)), (sh, .inr (8, [.ref sm, .ref wd, .ref bl, fl0, tk0])), (sm, .inl (cI, 8, .inl f0)), (wd, .inl (cI, 64, .inl w0)), (bl, .inl (cB, 64, .inl b0))] sz) := by
  refine Met.ofW (cc := prog_4_method_4_code) (maxL := 3) (ret := (Option.some Jvm.ClassFile.FieldType.int)) (by decide) rfl ?_
  intro p e s m args below meth c s₁ B hml hv
  obtain ⟨rfl, hsz, hP, hK, hD0, hN, hTh⟩ := hv
  have hx := B.exec
  have hb := B.bytes
  have hr := B.returns
  have hts0 := atoms_spec (ws := ws_In_findKnown) B.pre
  have hts : ∀ w ∈ xg_1, w.before _ s = true := fun w h => hts0 w (List.mem_cons_of_mem _ h)
  have hown : s.vm.findClass "PatchStore$Intake" = some m.cls := findClass_of_methodNamed B.named
  have hlocks := B.notSynchronized
  subst hsz
  have hD := hD0.self (sz := s.heap.size)
  generalize hAe : va_A [(h, .inr (3, [.ref sk, it_changes, it_lines, .ref sh, it_form, it_named, it_linesOfFile, it_nextFile, it_nextLine])), (sk, .inr (9, [.ref b_y, .ref fr, sk_firstDependency, sk_firstChange, sk_dependencies, .ref hs, .ref bh, sk_leansOn, sk_leantBy, sk_changes, sk_lines, .int (nI P)])), (b_y, .inl (cB, 290000, .inl f)), (fr, .inl (cI, 502, .inl frf)), (hs, .inl (cB, 16032, .inl hf)), (bh, .inl (cI, 500, .inl bf)), (sh, .inr (8, [.ref sm, .ref wd, .ref bl, fl0, tk0])), (sm, .inl (cI, 8, .inl f0)), (wd, .inl (cI, 64, .inl w0)), (bl, .inl (cB, 64, .inl b0))] s.heap.size = A at hD hTh ⊢
  have hA : ∀ q : Nat, s.heap.size ≤ q → A q := fun q h => by rw [← hAe]; exact Or.inr h
  have hS : va_S A s.heap s.heap [] := va_S.rf
  have hl := lv_entry ([.ref h]) (n := 3) (Nat.le_of_ble_eq_true rfl)
  rw [lg_entry_eq]
  generalize (lg_sl ([.ref h]) ++ List.replicate (3 - (lg_sl ([.ref h])).length) Slot.unset).toArray = ls at hl ⊢
  have hl : lv_has ls 3 [(0, .ref h)] := hl
  refine lv_aload_n hx hb d_In_findKnown_0 rfl (lv_at hl 0 rfl) ?_
  refine va_get (D := (dC, dI)) (ci := 3) (v := .ref sk) (C := R_In) (T := F_In) (N := 9) hx hb hts i_In hown hK hP 0 rfl rfl 0 (by decide) (hts _ gw_284) (fun _ h9 => h9) rfl d_In_findKnown_1 ?_
  refine va_get (D := (dC, dI)) (ci := 9) (v := .ref fr) (C := R_St) (T := F_St) (N := 12) hx hb hts i_St hown hK hP 1 rfl rfl 1 (by decide) (hts _ gw_191) (fun _ h9 => h9) rfl d_In_findKnown_4 ?_
  refine lv_aload_n hx hb d_In_findKnown_7 rfl (lv_at hl 0 rfl) ?_
  refine va_get (D := (dC, dI)) (ci := 3) (v := .ref sk) (C := R_In) (T := F_In) (N := 9) hx hb hts i_In hown hK hP 0 rfl rfl 0 (by decide) (hts _ gw_284) (fun _ h9 => h9) rfl d_In_findKnown_8 ?_
  refine va_get (D := (dC, dI)) (ci := 9) (v := .int (nI P)) (C := R_St) (T := F_St) (N := 12) hx hb hts i_St hown hK hP 1 rfl rfl 11 (by decide) (hts _ gw_238) (fun _ h9 => h9) rfl d_In_findKnown_11 ?_
  refine va_iald hx hb hK hP 3 0 rfl rfl (vp_in_nI (by omega) (by omega)) d_In_findKnown_14 ?_
  rw [show (nI P).toNatClampNeg = P from nI_clamp (by omega)]
  refine lv_topi (fun x_1 ex_1 => ?_)
  obtain rfl : x_1 = nI s0 := by rw [ex_1]; first | done | (exact hs0)
  refine lv_istore_n (lv' := [(1, .int (nI s0)), (0, .ref h)]) hx hb d_In_findKnown_15 rfl hl (by decide) rfl (fun ls hl => ?_)
  refine lv_aload_n hx hb d_In_findKnown_16 rfl (lv_at hl 1 rfl) ?_
  refine va_get (D := (dC, dI)) (ci := 3) (v := .ref sk) (C := R_In) (T := F_In) (N := 9) hx hb hts i_In hown hK hP 0 rfl rfl 0 (by decide) (hts _ gw_284) (fun _ h9 => h9) rfl d_In_findKnown_17 ?_
  refine va_get (D := (dC, dI)) (ci := 9) (v := .int (nI P)) (C := R_St) (T := F_St) (N := 12) hx hb hts i_St hown hK hP 1 rfl rfl 11 (by decide) (hts _ gw_238) (fun _ h9 => h9) rfl d_In_findKnown_20 ?_
  refine lv_bipush (v := 32) hx hb d_In_findKnown_23 (by decide) ?_
  refine lv_imul hx hb d_In_findKnown_25 ?_
  refine lv_topi (fun x_2 ex_2 => ?_)
  obtain rfl : x_2 = nI (P * 32) := by rw [ex_2]; first | done | (exact nI_mul _ _)
  refine lv_istore_n (lv' := [(2, .int (nI (P * 32))), (1, .int (nI s0)), (0, .ref h)]) hx hb d_In_findKnown_26 rfl hl (by decide) rfl (fun ls hl => ?_)
  refine lv_aload_n hx hb d_In_findKnown_27 rfl (lv_at hl 2 rfl) ?_
  refine va_get (D := (dC, dI)) (ci := 3) (v := .ref sh) (C := R_In) (T := F_In) (N := 9) hx hb hts i_In hown hK hP 0 rfl rfl 3 (by decide) (hts _ gw_287) (fun _ h9 => h9) rfl d_In_findKnown_28 ?_
  have hPc := hP.sub (ws' := [(sh, .inr (8, [.ref sm, .ref wd, .ref bl, fl0, tk0])), (sm, .inl (cI, 8, .inl f0))]) [6, 7] rfl
  have hDc := hD.sub (ws' := [(sh, .inr (8, [.ref sm, .ref wd, .ref bl, fl0, tk0])), (sm, .inl (cI, 8, .inl f0))]) [6, 7] (by decide) rfl
  have hFc := va_free (wc := [(sh, .inr (8, [.ref sm, .ref wd, .ref bl, fl0, tk0])), (sm, .inl (cI, 8, .inl f0))]) hD hS hA [6, 7] rfl
  refine va_callv (va_runV (As := []) (rest := []) ⟨hx, hb, hml, hown, hts⟩ (m_Sh_begin l dC dI cI cB cL cZ cR sh sm (.ref wd) (.ref bl) (fl0) (tk0) f0 s.heap.size ) (cwV 0 hts (xg_V gw_833 gw_834 gw_835 gw_2 gw_836) rfl rfl rfl (by decide +kernel) ⟨Nat.le_of_ble_eq_true rfl, Nat.le_of_ble_eq_true rfl⟩) ⟨xw_blindx, va_recv hK hPc (ci := 8) (q0 := 0) rfl rfl, fun U hU hW => ⟨rfl, by rw [hU], by rw [hU]; exact hPc, va_K.moved hW.alike hK, hDc.weaken (fun _ _ _ _ => trivial), xg_N.warm hW hN, by rw [hU]; exact ((hTh.kept (fun a h1 h2 => hS.2.1 a h1 h2)).narrow hFc).moved hW.alike⟩⟩ rfl rfl hl.1 rfl (lv_room (Nat.le_of_ble_eq_true rfl)) d_In_findKnown_31 ⟨Nat.le_of_ble_eq_true rfl, Nat.le_of_ble_eq_true rfl⟩) hS (fun q _ h => hFc q h) hFc (fun f1 t H1 locs ht hvm hw hB hz1 hk1 hS => ?_)
  obtain ⟨hP1, hK1, hD1⟩ := hB
  rw [ht] at hP1
  obtain ⟨hP, hD⟩ := va_join (wr := [(h, .inr (3, [.ref sk, it_changes, it_lines, .ref sh, it_form, it_named, it_linesOfFile, it_nextFile, it_nextLine])), (sk, .inr (9, [.ref b_y, .ref fr, sk_firstDependency, sk_firstChange, sk_dependencies, .ref hs, .ref bh, sk_leansOn, sk_leantBy, sk_changes, sk_lines, .int (nI P)])), (b_y, .inl (cB, 290000, .inl f)), (fr, .inl (cI, 502, .inl frf)), (hs, .inl (cB, 16032, .inl hf)), (bh, .inl (cI, 500, .inl bf)), (wd, .inl (cI, 64, .inl w0)), (bl, .inl (cB, 64, .inl b0))]) (w1 := [(sh, .inr (8, [.ref sm, .ref wd, .ref bl, .int 0, .int 0])), (sm, .inl (cI, 8, .inl f1))]) hP hD [6, 7] [0, 1, 2, 3, 4, 5, 8, 9] rfl rfl (by decide) (by decide) hk1 hFc hP1 hD1
  generalize H1 = H at hP hS ⊢
  have hP : va_P (dC, dI) classes [(h, .inr (3, [.ref sk, it_changes, it_lines, .ref sh, it_form, it_named, it_linesOfFile, it_nextFile, it_nextLine])), (sk, .inr (9, [.ref b_y, .ref fr, sk_firstDependency, sk_firstChange, sk_dependencies, .ref hs, .ref bh, sk_leansOn, sk_leantBy, sk_changes, sk_lines, .int (nI P)])), (b_y, .inl (cB, 290000, .inl f)), (fr, .inl (cI, 502, .inl frf)), (hs, .inl (cB, 16032, .inl hf)), (bh, .inl (cI, 500, .inl bf)), (wd, .inl (cI, 64, .inl w0)), (bl, .inl (cB, 64, .inl b0)), (sh, .inr (8, [.ref sm, .ref wd, .ref bl, .int 0, .int 0])), (sm, .inl (cI, 8, .inl f1))] H := hP
  have hD : va_D A [(h, .inr (3, [.ref sk, it_changes, it_lines, .ref sh, it_form, it_named, it_linesOfFile, it_nextFile, it_nextLine])), (sk, .inr (9, [.ref b_y, .ref fr, sk_firstDependency, sk_firstChange, sk_dependencies, .ref hs, .ref bh, sk_leansOn, sk_leantBy, sk_changes, sk_lines, .int (nI P)])), (b_y, .inl (cB, 290000, .inl f)), (fr, .inl (cI, 502, .inl frf)), (hs, .inl (cB, 16032, .inl hf)), (bh, .inl (cI, 500, .inl bf)), (wd, .inl (cI, 64, .inl w0)), (bl, .inl (cB, 64, .inl b0)), (sh, .inr (8, [.ref sm, .ref wd, .ref bl, .int 0, .int 0])), (sm, .inl (cI, 8, .inl f1))] := hD
  have hf1 : ∀ j, j < 8 → f1 j = sh_START j := hw
  refine lv_aload_n hx hb d_In_findKnown_34 rfl (lv_at hl 2 rfl) ?_
  refine va_get (D := (dC, dI)) (ci := 3) (v := .ref sh) (C := R_In) (T := F_In) (N := 9) hx hb hts i_In hown hK hP 0 rfl rfl 3 (by decide) (hts _ gw_287) (fun _ h9 => h9) rfl d_In_findKnown_35 ?_
  refine lv_aload_n hx hb d_In_findKnown_38 rfl (lv_at hl 2 rfl) ?_
  refine va_get (D := (dC, dI)) (ci := 3) (v := .ref sk) (C := R_In) (T := F_In) (N := 9) hx hb hts i_In hown hK hP 0 rfl rfl 0 (by decide) (hts _ gw_284) (fun _ h9 => h9) rfl d_In_findKnown_39 ?_
  refine va_get (D := (dC, dI)) (ci := 9) (v := .ref b_y) (C := R_St) (T := F_St) (N := 12) hx hb hts i_St hown hK hP 1 rfl rfl 0 (by decide) (hts _ gw_184) (fun _ h9 => h9) rfl d_In_findKnown_42 ?_
  refine lv_iload_n hx hb d_In_findKnown_45 rfl (lv_at hl 1 rfl) ?_
  refine lv_aload_n hx hb d_In_findKnown_46 rfl (lv_at hl 2 rfl) ?_
  refine va_get (D := (dC, dI)) (ci := 3) (v := .ref sk) (C := R_In) (T := F_In) (N := 9) hx hb hts i_In hown hK hP 0 rfl rfl 0 (by decide) (hts _ gw_284) (fun _ h9 => h9) rfl d_In_findKnown_47 ?_
  refine va_get (D := (dC, dI)) (ci := 9) (v := .ref fr) (C := R_St) (T := F_St) (N := 12) hx hb hts i_St hown hK hP 1 rfl rfl 1 (by decide) (hts _ gw_191) (fun _ h9 => h9) rfl d_In_findKnown_50 ?_
  refine lv_aload_n hx hb d_In_findKnown_53 rfl (lv_at hl 2 rfl) ?_
  refine va_get (D := (dC, dI)) (ci := 3) (v := .ref sk) (C := R_In) (T := F_In) (N := 9) hx hb hts i_In hown hK hP 0 rfl rfl 0 (by decide) (hts _ gw_284) (fun _ h9 => h9) rfl d_In_findKnown_54 ?_
  refine va_get (D := (dC, dI)) (ci := 9) (v := .int (nI P)) (C := R_St) (T := F_St) (N := 12) hx hb hts i_St hown hK hP 1 rfl rfl 11 (by decide) (hts _ gw_238) (fun _ h9 => h9) rfl d_In_findKnown_57 ?_
  refine lv_iconst (v := 1) hx hb d_In_findKnown_60 (by decide) ?_
  refine lv_iadd hx hb d_In_findKnown_61 ?_
  refine lv_topi (fun x_3 ex_3 => ?_)
  obtain rfl : x_3 = nI (P + 1) := by rw [ex_3]; first | done | (exact nI_add _ _)
  refine va_iald hx hb hK hP 3 0 rfl rfl (vp_in_nI (by omega) (by omega)) d_In_findKnown_62 ?_
  rw [show (nI (P + 1)).toNatClampNeg = (P + 1) from nI_clamp (by omega)]
  refine lv_topi (fun x_4 ex_4 => ?_)
  obtain rfl : x_4 = nI en := by rw [ex_4]; first | done | (exact hen)
  refine lv_iload_n hx hb d_In_findKnown_63 rfl (lv_at hl 1 rfl) ?_
  refine lv_isub hx hb d_In_findKnown_64 ?_
  refine lv_topi (fun x_5 ex_5 => ?_)
  obtain rfl : x_5 = nI (en - s0) := by rw [ex_5]; first | done | (exact nI_subN hse)
  have hPc := hP.sub (ws' := [(sh, .inr (8, [.ref sm, .ref wd, .ref bl, .int 0, .int 0])), (sm, .inl (cI, 8, .inl f1)), (wd, .inl (cI, 64, .inl w0)), (bl, .inl (cB, 64, .inl b0)), (b_y, .inl (cB, 290000, .inl f))]) [8, 9, 6, 7, 2] rfl
  have hDc := hD.sub (ws' := [(sh, .inr (8, [.ref sm, .ref wd, .ref bl, .int 0, .int 0])), (sm, .inl (cI, 8, .inl f1)), (wd, .inl (cI, 64, .inl w0)), (bl, .inl (cB, 64, .inl b0)), (b_y, .inl (cB, 290000, .inl f))]) [8, 9, 6, 7, 2] (by decide) rfl
  have hFc := va_free (wc := [(sh, .inr (8, [.ref sm, .ref wd, .ref bl, .int 0, .int 0])), (sm, .inl (cI, 8, .inl f1)), (wd, .inl (cI, 64, .inl w0)), (bl, .inl (cB, 64, .inl b0)), (b_y, .inl (cB, 290000, .inl f))]) hD hS hA [8, 9, 6, 7, 2] rfl
  refine va_callv (va_runV (As := [.ref b_y, .int (nI s0), .int (nI (en - s0))]) (rest := []) ⟨hx, hb, hml, hown, hts⟩ (m_Sh_take l dC dI cI cB cL cZ cR sh sm wd bl b_y f1 w0 b0 0 0 290000 s0 (en - s0) f H.size (by decide) (by decide) (by omega) gb) (cwV 3 hts (xg_V gw_839 gw_840 gw_841 gw_2 gw_842) rfl rfl rfl (by decide +kernel) ⟨Nat.le_of_ble_eq_true rfl, Nat.le_of_ble_eq_true rfl⟩) ⟨xw_blindx, va_recv hK hPc (ci := 8) (q0 := 0) rfl rfl, fun U hU hW => ⟨rfl, by rw [hU], by rw [hU]; exact hPc, va_K.moved hW.alike hK, hDc.weaken (fun _ _ _ _ => trivial), xg_N.warm hW hN, by rw [hU]; exact ((hTh.kept (fun a h1 h2 => hS.2.1 a h1 h2)).narrow hFc).moved hW.alike⟩⟩ rfl rfl hl.1 rfl (lv_room (Nat.le_of_ble_eq_true rfl)) d_In_findKnown_65 ⟨Nat.le_of_ble_eq_true rfl, Nat.le_of_ble_eq_true rfl⟩) hS (fun q _ h => hFc q h) hFc (fun u t H1 locs ht hvm hw hB hz1 hk1 hS => ?_)
  obtain ⟨f2, w2, b2, F2⟩ := u
  obtain ⟨hw1, hw2⟩ := hw
  dsimp only at hw1 hw2
  obtain ⟨hP1, hK1, hD1⟩ := hB
  rw [ht] at hP1
  obtain ⟨hP, hD⟩ := va_join (wr := [(h, .inr (3, [.ref sk, it_changes, it_lines, .ref sh, it_form, it_named, it_linesOfFile, it_nextFile, it_nextLine])), (sk, .inr (9, [.ref b_y, .ref fr, sk_firstDependency, sk_firstChange, sk_dependencies, .ref hs, .ref bh, sk_leansOn, sk_leantBy, sk_changes, sk_lines, .int (nI P)])), (fr, .inl (cI, 502, .inl frf)), (hs, .inl (cB, 16032, .inl hf)), (bh, .inl (cI, 500, .inl bf))]) (w1 := [(sh, .inr (8, [.ref sm, .ref wd, .ref bl, .int (nI F2), .int (0 + nI (en - s0))])), (sm, .inl (cI, 8, .inl f2)), (wd, .inl (cI, 64, .inl w2)), (bl, .inl (cB, 64, .inl b2)), (b_y, .inl (cB, 290000, .inl f))]) hP hD [8, 9, 6, 7, 2] [0, 1, 3, 4, 5] rfl rfl (by decide) (by decide) hk1 hFc hP1 hD1
  generalize H1 = H at hP hS ⊢
  have hP : va_P (dC, dI) classes [(h, .inr (3, [.ref sk, it_changes, it_lines, .ref sh, it_form, it_named, it_linesOfFile, it_nextFile, it_nextLine])), (sk, .inr (9, [.ref b_y, .ref fr, sk_firstDependency, sk_firstChange, sk_dependencies, .ref hs, .ref bh, sk_leansOn, sk_leantBy, sk_changes, sk_lines, .int (nI P)])), (fr, .inl (cI, 502, .inl frf)), (hs, .inl (cB, 16032, .inl hf)), (bh, .inl (cI, 500, .inl bf)), (sh, .inr (8, [.ref sm, .ref wd, .ref bl, .int (nI F2), .int (0 + nI (en - s0))])), (sm, .inl (cI, 8, .inl f2)), (wd, .inl (cI, 64, .inl w2)), (bl, .inl (cB, 64, .inl b2)), (b_y, .inl (cB, 290000, .inl f))] H := hP
  have hD : va_D A [(h, .inr (3, [.ref sk, it_changes, it_lines, .ref sh, it_form, it_named, it_linesOfFile, it_nextFile, it_nextLine])), (sk, .inr (9, [.ref b_y, .ref fr, sk_firstDependency, sk_firstChange, sk_dependencies, .ref hs, .ref bh, sk_leansOn, sk_leantBy, sk_changes, sk_lines, .int (nI P)])), (fr, .inl (cI, 502, .inl frf)), (hs, .inl (cB, 16032, .inl hf)), (bh, .inl (cI, 500, .inl bf)), (sh, .inr (8, [.ref sm, .ref wd, .ref bl, .int (nI F2), .int (0 + nI (en - s0))])), (sm, .inl (cI, 8, .inl f2)), (wd, .inl (cI, 64, .inl w2)), (bl, .inl (cB, 64, .inl b2)), (b_y, .inl (cB, 290000, .inl f))] := hD
  refine lv_aload_n hx hb d_In_findKnown_68 rfl (lv_at hl 2 rfl) ?_
  refine va_get (D := (dC, dI)) (ci := 3) (v := .ref sh) (C := R_In) (T := F_In) (N := 9) hx hb hts i_In hown hK hP 0 rfl rfl 3 (by decide) (hts _ gw_287) (fun _ h9 => h9) rfl d_In_findKnown_69 ?_
  refine lv_aload_n hx hb d_In_findKnown_72 rfl (lv_at hl 2 rfl) ?_
  refine va_get (D := (dC, dI)) (ci := 3) (v := .ref sk) (C := R_In) (T := F_In) (N := 9) hx hb hts i_In hown hK hP 0 rfl rfl 0 (by decide) (hts _ gw_284) (fun _ h9 => h9) rfl d_In_findKnown_73 ?_
  refine va_get (D := (dC, dI)) (ci := 9) (v := .ref hs) (C := R_St) (T := F_St) (N := 12) hx hb hts i_St hown hK hP 1 rfl rfl 5 (by decide) (hts _ gw_205) (fun _ h9 => h9) rfl d_In_findKnown_76 ?_
  refine lv_iload_n hx hb d_In_findKnown_79 rfl (lv_at hl 0 rfl) ?_
  have hPc := hP.sub (ws' := [(sh, .inr (8, [.ref sm, .ref wd, .ref bl, .int (nI F2), .int (0 + nI (en - s0))])), (sm, .inl (cI, 8, .inl f2)), (wd, .inl (cI, 64, .inl w2)), (bl, .inl (cB, 64, .inl b2)), (hs, .inl (cB, 16032, .inl hf))]) [5, 6, 7, 8, 3] rfl
  have hDc := hD.sub (ws' := [(sh, .inr (8, [.ref sm, .ref wd, .ref bl, .int (nI F2), .int (0 + nI (en - s0))])), (sm, .inl (cI, 8, .inl f2)), (wd, .inl (cI, 64, .inl w2)), (bl, .inl (cB, 64, .inl b2)), (hs, .inl (cB, 16032, .inl hf))]) [5, 6, 7, 8, 3] (by decide) rfl
  have hFc := va_free (wc := [(sh, .inr (8, [.ref sm, .ref wd, .ref bl, .int (nI F2), .int (0 + nI (en - s0))])), (sm, .inl (cI, 8, .inl f2)), (wd, .inl (cI, 64, .inl w2)), (bl, .inl (cB, 64, .inl b2)), (hs, .inl (cB, 16032, .inl hf))]) hD hS hA [5, 6, 7, 8, 3] rfl
  refine va_callv (va_runV (As := [.ref hs, .int (nI (P * 32))]) (rest := []) ⟨hx, hb, hml, hown, hts⟩ (m_Sh_finish l dC dI cI cB cL cZ cR sh sm wd bl hs f2 w2 b2 F2 (0 + nI (en - s0)) 16032 (P * 32) hf H.size hw2 (by decide) (by omega)) (cwV 2 hts (xg_V gw_857 gw_858 gw_859 gw_2 gw_860) rfl rfl rfl (by decide +kernel) ⟨Nat.le_of_ble_eq_true rfl, Nat.le_of_ble_eq_true rfl⟩) ⟨xw_blindx, va_recv hK hPc (ci := 8) (q0 := 0) rfl rfl, fun U hU hW => ⟨rfl, by rw [hU], by rw [hU]; exact hPc, va_K.moved hW.alike hK, hDc.weaken (fun _ _ _ _ => trivial), xg_N.warm hW hN, by rw [hU]; exact ((hTh.kept (fun a h1 h2 => hS.2.1 a h1 h2)).narrow hFc).moved hW.alike⟩⟩ rfl rfl hl.1 rfl (lv_room (Nat.le_of_ble_eq_true rfl)) d_In_findKnown_80 ⟨Nat.le_of_ble_eq_true rfl, Nat.le_of_ble_eq_true rfl⟩) hS (fun q _ h => hFc q h) hFc (fun u t H1 locs ht hvm hw hB hz1 hk1 hS => ?_)
  obtain ⟨f3, w3, b3, F3, g3⟩ := u
  obtain ⟨hv1, hv2, hv3⟩ := hw
  dsimp only at hv1 hv2 hv3
  rw [Int32.zero_add] at hv1
  obtain rfl : g3 = sh_out (dg f s0 (en - s0)) (P * 32) 32 hf := hv3.trans (sh_out_congr (dg_of hf1 hw1 hv1) _ _)
  obtain ⟨hP1, hK1, hD1⟩ := hB
  rw [ht] at hP1
  obtain ⟨hP, hD⟩ := va_join (wr := [(h, .inr (3, [.ref sk, it_changes, it_lines, .ref sh, it_form, it_named, it_linesOfFile, it_nextFile, it_nextLine])), (sk, .inr (9, [.ref b_y, .ref fr, sk_firstDependency, sk_firstChange, sk_dependencies, .ref hs, .ref bh, sk_leansOn, sk_leantBy, sk_changes, sk_lines, .int (nI P)])), (fr, .inl (cI, 502, .inl frf)), (bh, .inl (cI, 500, .inl bf)), (b_y, .inl (cB, 290000, .inl f))]) (w1 := [(sh, .inr (8, [.ref sm, .ref wd, .ref bl, .int (nI F3), .int (0 + nI (en - s0))])), (sm, .inl (cI, 8, .inl f3)), (wd, .inl (cI, 64, .inl w3)), (bl, .inl (cB, 64, .inl b3)), (hs, .inl (cB, 16032, .inl (sh_out (dg f s0 (en - s0)) (P * 32) 32 hf)))]) hP hD [5, 6, 7, 8, 3] [0, 1, 2, 4, 9] rfl rfl (by decide) (by decide) hk1 hFc hP1 hD1
  generalize H1 = H at hP hS ⊢
  have hP : va_P (dC, dI) classes [(h, .inr (3, [.ref sk, it_changes, it_lines, .ref sh, it_form, it_named, it_linesOfFile, it_nextFile, it_nextLine])), (sk, .inr (9, [.ref b_y, .ref fr, sk_firstDependency, sk_firstChange, sk_dependencies, .ref hs, .ref bh, sk_leansOn, sk_leantBy, sk_changes, sk_lines, .int (nI P)])), (fr, .inl (cI, 502, .inl frf)), (bh, .inl (cI, 500, .inl bf)), (b_y, .inl (cB, 290000, .inl f)), (sh, .inr (8, [.ref sm, .ref wd, .ref bl, .int (nI F3), .int (0 + nI (en - s0))])), (sm, .inl (cI, 8, .inl f3)), (wd, .inl (cI, 64, .inl w3)), (bl, .inl (cB, 64, .inl b3)), (hs, .inl (cB, 16032, .inl (sh_out (dg f s0 (en - s0)) (P * 32) 32 hf)))] H := hP
  have hD : va_D A [(h, .inr (3, [.ref sk, it_changes, it_lines, .ref sh, it_form, it_named, it_linesOfFile, it_nextFile, it_nextLine])), (sk, .inr (9, [.ref b_y, .ref fr, sk_firstDependency, sk_firstChange, sk_dependencies, .ref hs, .ref bh, sk_leansOn, sk_leantBy, sk_changes, sk_lines, .int (nI P)])), (fr, .inl (cI, 502, .inl frf)), (bh, .inl (cI, 500, .inl bf)), (b_y, .inl (cB, 290000, .inl f)), (sh, .inr (8, [.ref sm, .ref wd, .ref bl, .int (nI F3), .int (0 + nI (en - s0))])), (sm, .inl (cI, 8, .inl f3)), (wd, .inl (cI, 64, .inl w3)), (bl, .inl (cB, 64, .inl b3)), (hs, .inl (cB, 16032, .inl (sh_out (dg f s0 (en - s0)) (P * 32) 32 hf)))] := hD
  refine lv_aload_n hx hb d_In_findKnown_83 rfl (lv_at hl 2 rfl) ?_
  refine va_get (D := (dC, dI)) (ci := 3) (v := .ref sk) (C := R_In) (T := F_In) (N := 9) hx hb hts i_In hown hK hP 0 rfl rfl 0 (by decide) (hts _ gw_284) (fun _ h9 => h9) rfl d_In_findKnown_84 ?_
  refine lv_aload_n hx hb d_In_findKnown_87 rfl (lv_at hl 2 rfl) ?_
  refine va_get (D := (dC, dI)) (ci := 3) (v := .ref sk) (C := R_In) (T := F_In) (N := 9) hx hb hts i_In hown hK hP 0 rfl rfl 0 (by decide) (hts _ gw_284) (fun _ h9 => h9) rfl d_In_findKnown_88 ?_
  refine va_get (D := (dC, dI)) (ci := 9) (v := .ref hs) (C := R_St) (T := F_St) (N := 12) hx hb hts i_St hown hK hP 1 rfl rfl 5 (by decide) (hts _ gw_205) (fun _ h9 => h9) rfl d_In_findKnown_91 ?_
  refine lv_iload_n hx hb d_In_findKnown_94 rfl (lv_at hl 0 rfl) ?_
  have hPc := hP.sub (ws' := [(sk, .inr (9, [.ref b_y, .ref fr, sk_firstDependency, sk_firstChange, sk_dependencies, .ref hs, .ref bh, sk_leansOn, sk_leantBy, sk_changes, sk_lines, .int (nI P)])), (hs, .inl (cB, 16032, .inl (sh_out (dg f s0 (en - s0)) (P * 32) 32 hf))), (bh, .inl (cI, 500, .inl bf))]) [1, 9, 3] rfl
  have hDc := hD.sub (ws' := [(sk, .inr (9, [.ref b_y, .ref fr, sk_firstDependency, sk_firstChange, sk_dependencies, .ref hs, .ref bh, sk_leansOn, sk_leantBy, sk_changes, sk_lines, .int (nI P)])), (hs, .inl (cB, 16032, .inl (sh_out (dg f s0 (en - s0)) (P * 32) 32 hf))), (bh, .inl (cI, 500, .inl bf))]) [1, 9, 3] (by decide) rfl
  have hFc := va_free (wc := [(sk, .inr (9, [.ref b_y, .ref fr, sk_firstDependency, sk_firstChange, sk_dependencies, .ref hs, .ref bh, sk_leansOn, sk_leantBy, sk_changes, sk_lines, .int (nI P)])), (hs, .inl (cB, 16032, .inl (sh_out (dg f s0 (en - s0)) (P * 32) 32 hf))), (bh, .inl (cI, 500, .inl bf))]) hD hS hA [1, 9, 3] rfl
  refine va_calli (va_runV (As := [.ref hs, .int (nI (P * 32))]) (rest := []) ⟨hx, hb, hml, hown, hts⟩ (m_St_patchWiths l dC dI cI cB cL cZ cR sk hs bh (.ref b_y) (.ref fr) (sk_firstDependency) (sk_firstChange) (sk_dependencies) (sk_leansOn) (sk_leantBy) (sk_changes) (sk_lines) P (P * 32) (sh_out (dg f s0 (en - s0)) (P * 32) 32 hf) bf Bh H.size hP5 gB (gU.out gBl) (by omega)) (cwV 2 hts (xg_V gw_816 gw_817 gw_818 gw_3 gw_819) rfl rfl rfl (by decide +kernel) ⟨Nat.le_of_ble_eq_true rfl, Nat.le_of_ble_eq_true rfl⟩) ⟨xw_blind, va_recv hK hPc (ci := 9) (q0 := 0) rfl rfl, fun U hU hW => ⟨rfl, by rw [hU], by rw [hU]; exact hPc, va_K.moved hW.alike hK, hDc.weaken (fun _ _ _ _ => trivial)⟩⟩ rfl rfl hl.1 rfl (lv_room (Nat.le_of_ble_eq_true rfl)) d_In_findKnown_95 ⟨Nat.le_of_ble_eq_true rfl, Nat.le_of_ble_eq_true rfl⟩) hS (fun q _ h => hFc q h) hFc (fun r9 u t H1 locs ht hvm hw hB hz1 hk1 hS => ?_)
  obtain ⟨hP1, hK1, hD1⟩ := hB
  rw [ht] at hP1
  obtain ⟨hP, hD⟩ := va_join (wr := [(h, .inr (3, [.ref sk, it_changes, it_lines, .ref sh, it_form, it_named, it_linesOfFile, it_nextFile, it_nextLine])), (fr, .inl (cI, 502, .inl frf)), (b_y, .inl (cB, 290000, .inl f)), (sh, .inr (8, [.ref sm, .ref wd, .ref bl, .int (nI F3), .int (0 + nI (en - s0))])), (sm, .inl (cI, 8, .inl f3)), (wd, .inl (cI, 64, .inl w3)), (bl, .inl (cB, 64, .inl b3))]) (w1 := [(sk, .inr (9, [.ref b_y, .ref fr, sk_firstDependency, sk_firstChange, sk_dependencies, .ref hs, .ref bh, sk_leansOn, sk_leantBy, sk_changes, sk_lines, .int (nI P)])), (hs, .inl (cB, 16032, .inl (sh_out (dg f s0 (en - s0)) (P * 32) 32 hf))), (bh, .inl (cI, 500, .inl bf))]) hP hD [1, 9, 3] [0, 2, 4, 5, 6, 7, 8] rfl rfl (by decide) (by decide) hk1 hFc hP1 hD1
  generalize H1 = H at hP hS ⊢
  have hP : va_P (dC, dI) classes [(h, .inr (3, [.ref sk, it_changes, it_lines, .ref sh, it_form, it_named, it_linesOfFile, it_nextFile, it_nextLine])), (fr, .inl (cI, 502, .inl frf)), (b_y, .inl (cB, 290000, .inl f)), (sh, .inr (8, [.ref sm, .ref wd, .ref bl, .int (nI F3), .int (0 + nI (en - s0))])), (sm, .inl (cI, 8, .inl f3)), (wd, .inl (cI, 64, .inl w3)), (bl, .inl (cB, 64, .inl b3)), (sk, .inr (9, [.ref b_y, .ref fr, sk_firstDependency, sk_firstChange, sk_dependencies, .ref hs, .ref bh, sk_leansOn, sk_leantBy, sk_changes, sk_lines, .int (nI P)])), (hs, .inl (cB, 16032, .inl (sh_out (dg f s0 (en - s0)) (P * 32) 32 hf))), (bh, .inl (cI, 500, .inl bf))] H := hP
  have hD : va_D A [(h, .inr (3, [.ref sk, it_changes, it_lines, .ref sh, it_form, it_named, it_linesOfFile, it_nextFile, it_nextLine])), (fr, .inl (cI, 502, .inl frf)), (b_y, .inl (cB, 290000, .inl f)), (sh, .inr (8, [.ref sm, .ref wd, .ref bl, .int (nI F3), .int (0 + nI (en - s0))])), (sm, .inl (cI, 8, .inl f3)), (wd, .inl (cI, 64, .inl w3)), (bl, .inl (cB, 64, .inl b3)), (sk, .inr (9, [.ref b_y, .ref fr, sk_firstDependency, sk_firstChange, sk_dependencies, .ref hs, .ref bh, sk_leansOn, sk_leantBy, sk_changes, sk_lines, .int (nI P)])), (hs, .inl (cB, 16032, .inl (sh_out (dg f s0 (en - s0)) (P * 32) 32 hf))), (bh, .inl (cI, 500, .inl bf))] := hD
  have hpw : pw_ok (sh_out (dg f s0 (en - s0)) (P * 32) 32 hf) (sh_out (dg f s0 (en - s0)) (P * 32) 32 hf) Bh P (P * 32) r9 := hw
  have hP := hP.sub (ws' := [(h, .inr (3, [.ref sk, it_changes, it_lines, .ref sh, it_form, it_named, it_linesOfFile, it_nextFile, it_nextLine])), (sk, .inr (9, [.ref b_y, .ref fr, sk_firstDependency, sk_firstChange, sk_dependencies, .ref hs, .ref bh, sk_leansOn, sk_leantBy, sk_changes, sk_lines, .int (nI P)])), (b_y, .inl (cB, 290000, .inl f)), (fr, .inl (cI, 502, .inl frf)), (hs, .inl (cB, 16032, .inl (sh_out (dg f s0 (en - s0)) (P * 32) 32 hf))), (bh, .inl (cI, 500, .inl bf)), (sh, .inr (8, [.ref sm, .ref wd, .ref bl, .int (nI F3), .int (0 + nI (en - s0))])), (sm, .inl (cI, 8, .inl f3)), (wd, .inl (cI, 64, .inl w3)), (bl, .inl (cB, 64, .inl b3))]) [0, 7, 2, 1, 8, 9, 3, 4, 5, 6] rfl
  have hD := hD.sub (ws' := [(h, .inr (3, [.ref sk, it_changes, it_lines, .ref sh, it_form, it_named, it_linesOfFile, it_nextFile, it_nextLine])), (sk, .inr (9, [.ref b_y, .ref fr, sk_firstDependency, sk_firstChange, sk_dependencies, .ref hs, .ref bh, sk_leansOn, sk_leantBy, sk_changes, sk_lines, .int (nI P)])), (b_y, .inl (cB, 290000, .inl f)), (fr, .inl (cI, 502, .inl frf)), (hs, .inl (cB, 16032, .inl (sh_out (dg f s0 (en - s0)) (P * 32) 32 hf))), (bh, .inl (cI, 500, .inl bf)), (sh, .inr (8, [.ref sm, .ref wd, .ref bl, .int (nI F3), .int (0 + nI (en - s0))])), (sm, .inl (cI, 8, .inl f3)), (wd, .inl (cI, 64, .inl w3)), (bl, .inl (cB, 64, .inl b3))]) [0, 7, 2, 1, 8, 9, 3, 4, 5, 6] (by decide) rfl
  exact W.iret (v := r9) hx hb hr (fun t ht hW => ⟨⟨_, (f3, w3, b3, F3), rfl, hpw, by rw [ht]; exact hP, va_K.moved hW.alike hK, hD⟩, hS.F ht⟩) hS.2.2 d_In_findKnown_98
