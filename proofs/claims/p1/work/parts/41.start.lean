/-! what holds at the law's start: the classes, the tables of constants, what no catch takes -/
theorem gw_38 : (Jvm.Cond.instantiable "PatchStore" (11 : Nat)) ∈ xg_1 := xg_s1 38 rfl rfl
theorem gw_1368 : (Jvm.Cond.instantiable "PatchStoreModel" (83 : Nat)) ∈ xg_1 := xg_s6 168 rfl rfl
theorem xk_arr {args : Array Value} {s : State} {ty : FieldType} (h : (Cond.arrayClass ty).before args s = true) (hra : ∀ c : ClassId, s.vm.findClass ("[" ++ ty.toString) = some c → va_RA s c ty) : ∃ c : ClassId, ArrOfT s c ty ∧ va_RA s c ty := by
  obtain ⟨c, k, comp, h1, h2, h3⟩ := Cond.arrayClass_spec h
  exact ⟨c, fun N z => ⟨fun k h => (by cases h), k, h2, comp, h3⟩, hra c h1⟩
theorem xk_obj {s : State} {n : String} (h : xa_T (.object n) s) : ∃ c : ClassId, ArrOfT s c (.object n) ∧ va_RA s c (.object n) := by
  obtain ⟨comp, c, k, h1, -, h2, h3, h4⟩ := Cond.arrayOver_spec h
  exact ⟨c, fun N z => ⟨fun k h => (by cases h), k, h2, comp, h3⟩, k, comp, h2, h3, h1, h4⟩
theorem xk_start {args : Array Value} {s : State} (hts : ∀ w ∈ xg_1, w.before args s = true) (hov : xa_T (.object "PatchStore$Repository") s) : ∃ (dC : Nat → ClassId) (dI : Nat → Nat → Nat) (cI cB cL cZ cR : ClassId), va_K (dC, dI) classes [(cI, .int), (cB, .byte), (cL, .long), (cZ, .boolean), (cR, .object "PatchStore$Repository")] s := by
  obtain ⟨c0, i0, hk0⟩ := u_known (C := R_PS) (T := F_PS) (N := 11) (n := 11) hts i_PS (hts _ gw_38)
  obtain ⟨c1, i1, hk1⟩ := u_known (C := R_Ch) (T := F_Ch) (N := 6) (n := 6) hts i_Ch (hts _ gw_80)
  obtain ⟨c2, i2, hk2⟩ := u_known (C := R_Fo) (T := F_Fo) (N := 1) (n := 1) hts i_Fo (hts _ gw_275)
  obtain ⟨c3, i3, hk3⟩ := u_known (C := R_In) (T := F_In) (N := 9) (n := 9) hts i_In (hts _ gw_269)
  obtain ⟨c4, i4, hk4⟩ := u_known (C := R_Li) (T := F_Li) (N := 8) (n := 8) hts i_Li (hts _ gw_129)
  obtain ⟨c5, i5, hk5⟩ := u_known (C := R_Mk) (T := F_Mk) (N := 5) (n := 5) hts i_Mk (hts _ gw_441)
  obtain ⟨c6, i6, hk6⟩ := u_known (C := R_Rc) (T := F_Rc) (N := 17) (n := 17) hts i_Rc (hts _ gw_463)
  obtain ⟨c7, i7, hk7⟩ := u_known (C := R_Re) (T := F_Re) (N := 5) (n := 5) hts i_Re (hts _ gw_522)
  obtain ⟨c8, i8, hk8⟩ := u_known (C := R_Sh) (T := F_Sh) (N := 5) (n := 5) hts i_Sh (hts _ gw_49)
  obtain ⟨c9, i9, hk9⟩ := u_known (C := R_St) (T := F_St) (N := 12) (n := 12) hts i_St (hts _ gw_73)
  obtain ⟨c10, i10, hk10⟩ := u_known (C := R_Tx) (T := F_Tx) (N := 19) (n := 19) hts i_Tx (hts _ gw_369)
  obtain ⟨c11, i11, hk11⟩ := u_known (C := R_Vw) (T := F_Vw) (N := 14) (n := 14) hts i_Vw (hts _ gw_313)
  obtain ⟨c12, i12, hk12⟩ := u_known (C := R_Md) (T := F_Md) (N := 83) (n := 83) hts i_Md (hts _ gw_1368)
  obtain ⟨c13, i13, hk13⟩ := u_known (C := R_MS) (T := F_MS) (N := 8) (n := 8) hts i_MS (hts _ gw_1382)
  obtain ⟨cI, haI⟩ := xk_arr (hts _ gw_71) (fun _ h => h)
  obtain ⟨cB, haB⟩ := xk_arr (hts _ gw_70) (fun _ h => h)
  obtain ⟨cL, haL⟩ := xk_arr (hts _ gw_127) (fun _ h => h)
  obtain ⟨cZ, haZ⟩ := xk_arr (hts _ gw_1415) (fun _ h => h)
  obtain ⟨cR, haR⟩ := xk_obj hov
  refine ⟨fun k => if k = 0 then c0 else if k = 1 then c1 else if k = 2 then c2 else if k = 3 then c3 else if k = 4 then c4 else if k = 5 then c5 else if k = 6 then c6 else if k = 7 then c7 else if k = 8 then c8 else if k = 9 then c9 else if k = 10 then c10 else if k = 11 then c11 else if k = 12 then c12 else c13, fun k => if k = 0 then i0 else if k = 1 then i1 else if k = 2 then i2 else if k = 3 then i3 else if k = 4 then i4 else if k = 5 then i5 else if k = 6 then i6 else if k = 7 then i7 else if k = 8 then i8 else if k = 9 then i9 else if k = 10 then i10 else if k = 11 then i11 else if k = 12 then i12 else i13, cI, cB, cL, cZ, cR, ?_, ?_⟩
  · intro k q hq
    match k, hq with
    | 0, hq => cases hq; exact hk0
    | 1, hq => cases hq; exact hk1
    | 2, hq => cases hq; exact hk2
    | 3, hq => cases hq; exact hk3
    | 4, hq => cases hq; exact hk4
    | 5, hq => cases hq; exact hk5
    | 6, hq => cases hq; exact hk6
    | 7, hq => cases hq; exact hk7
    | 8, hq => cases hq; exact hk8
    | 9, hq => cases hq; exact hk9
    | 10, hq => cases hq; exact hk10
    | 11, hq => cases hq; exact hk11
    | 12, hq => cases hq; exact hk12
    | 13, hq => cases hq; exact hk13
    | k + 14, hq => simp [classes] at hq
  · intro k q hq
    match k, hq with
    | 0, hq => cases hq; exact haI
    | 1, hq => cases hq; exact haB
    | 2, hq => cases hq; exact haL
    | 3, hq => cases hq; exact haZ
    | 4, hq => cases hq; exact haR
    | k + 5, hq => simp at hq
theorem xg_start {b : Addr} {s : State} (hts : ∀ w ∈ lw_tbl, w.before #[Value.ref b] s = true) : (∀ w ∈ xg_1, w.before #[Value.ref b] s = true) ∧ xg_N s := ⟨fun w h => hts w (List.mem_filter.mp h).1, fun w h => va_tabs (xg_on (List.mem_filter.mp h).2) rfl (hts w (List.mem_filter.mp h).1)⟩
theorem xa_start {b : Addr} {s : State} (hts : ∀ w ∈ lw_tbl, w.before #[Value.ref b] s = true) : xa s := ⟨hts _ (List.mem_append_right _ (show ((Jvm.Cond.arrayOver (Jvm.ClassFile.FieldType.object "PatchStore$Repository")) : Cond) ∈ tables_1 from (List.mem_append_left _ (List.mem_of_getElem? (i := 47) rfl)))), hts _ (List.mem_append_right _ (show ((Jvm.Cond.arrayOver (Jvm.ClassFile.FieldType.array Jvm.ClassFile.FieldType.byte)) : Cond) ∈ tables_1 from (List.mem_append_right _ (List.mem_append_right _ (List.mem_append_right _ (List.mem_append_right _ (List.mem_append_right _ (List.mem_append_left _ (List.mem_of_getElem? (i := 176) rfl))))))))), hts _ (List.mem_append_right _ (show ((Jvm.Cond.arrayOver (Jvm.ClassFile.FieldType.array Jvm.ClassFile.FieldType.boolean)) : Cond) ∈ tables_1 from (List.mem_append_right _ (List.mem_append_right _ (List.mem_append_right _ (List.mem_append_right _ (List.mem_append_right _ (List.mem_append_left _ (List.mem_of_getElem? (i := 180) rfl))))))))), hts _ (List.mem_append_right _ (show ((Jvm.Cond.arrayOver (Jvm.ClassFile.FieldType.array Jvm.ClassFile.FieldType.int)) : Cond) ∈ tables_1 from (List.mem_append_right _ (List.mem_append_right _ (List.mem_append_right _ (List.mem_append_right _ (List.mem_append_right _ (List.mem_append_left _ (List.mem_of_getElem? (i := 217) rfl)))))))))⟩
theorem xs_START_mem : ∀ j, j < 8 → (Cond.eq (.elem (Term.static "PatchStore$Sha256" "START" "[I") (.int (Int32.ofNat j))) (.int (sh_START j))) ∈ flatC narrow_1 := by decide +kernel
theorem xs_START_start {b : Addr} {s : State} {A : Nat → Prop} (hts : ∀ w ∈ lw_tbl, w.before #[Value.ref b] s = true) (hf : ∀ w ∈ flatC narrow_1, w.before #[Value.ref b] s = true) (hA : ∀ a : Nat, a < s.heap.size → ¬ A a) : xs_I "PatchStore$Sha256" "START" 8 sh_START A s s.heap := by
  obtain ⟨t, ht, hT⟩ := va_Tof (args := #[Value.ref b]) (tm := (Term.static "PatchStore$Sha256" "START" "[I")) (ty := .int) (N := 8) (f := fun j => .int (sh_START j)) (A := A) (by decide) (hf _ (by decide +kernel)) (va_eqt (hf (Cond.eq (.length (Term.static "PatchStore$Sha256" "START" "[I")) (.int 8)) (by decide +kernel))) (fun j hj => va_eqt (hf _ (xs_START_mem j hj))) hA
  exact ⟨t, va_Zof (hts _ (List.mem_append_right _ (show ((Jvm.Cond.laysStatic "PatchStore$Sha256" "START" "[I") : Cond) ∈ tables_1 from (List.mem_append_right _ (List.mem_append_right _ (List.mem_append_right _ (List.mem_append_left _ (List.mem_of_getElem? (i := 118) rfl)))))))) (hts _ (List.mem_filter.mp gw_2).1) ht hA, hT⟩
theorem xs_ROUND_mem : ∀ j, j < 64 → (Cond.eq (.elem (Term.static "PatchStore$Sha256" "ROUND" "[I") (.int (Int32.ofNat j))) (.int (sh_ROUND j))) ∈ flatC narrow_1 := by decide +kernel
theorem xs_ROUND_start {b : Addr} {s : State} {A : Nat → Prop} (hts : ∀ w ∈ lw_tbl, w.before #[Value.ref b] s = true) (hf : ∀ w ∈ flatC narrow_1, w.before #[Value.ref b] s = true) (hA : ∀ a : Nat, a < s.heap.size → ¬ A a) : xs_I "PatchStore$Sha256" "ROUND" 64 sh_ROUND A s s.heap := by
  obtain ⟨t, ht, hT⟩ := va_Tof (args := #[Value.ref b]) (tm := (Term.static "PatchStore$Sha256" "ROUND" "[I")) (ty := .int) (N := 64) (f := fun j => .int (sh_ROUND j)) (A := A) (by decide) (hf _ (by decide +kernel)) (va_eqt (hf (Cond.eq (.length (Term.static "PatchStore$Sha256" "ROUND" "[I")) (.int 64)) (by decide +kernel))) (fun j hj => va_eqt (hf _ (xs_ROUND_mem j hj))) hA
  exact ⟨t, va_Zof (hts _ (List.mem_append_right _ (show ((Jvm.Cond.laysStatic "PatchStore$Sha256" "ROUND" "[I") : Cond) ∈ tables_1 from (List.mem_append_right _ (List.mem_append_right _ (List.mem_append_right _ (List.mem_append_left _ (List.mem_of_getElem? (i := 136) rfl)))))))) (hts _ (List.mem_filter.mp gw_2).1) ht hA, hT⟩
theorem xs_FIRST_mem : ∀ j, j < 8 → (Cond.eq (.elem (Term.static "PatchStoreModel" "FIRST" "[J") (.int (Int32.ofNat j))) (.long (sh_FIRST j))) ∈ flatC narrow_1 := by decide +kernel
theorem xs_FIRST_start {b : Addr} {s : State} {A : Nat → Prop} (hts : ∀ w ∈ lw_tbl, w.before #[Value.ref b] s = true) (hf : ∀ w ∈ flatC narrow_1, w.before #[Value.ref b] s = true) (hA : ∀ a : Nat, a < s.heap.size → ¬ A a) : xs_L "PatchStoreModel" "FIRST" 8 sh_FIRST A s s.heap := by
  obtain ⟨t, ht, hT⟩ := va_Tof (args := #[Value.ref b]) (tm := (Term.static "PatchStoreModel" "FIRST" "[J")) (ty := .long) (N := 8) (f := fun j => .long (sh_FIRST j)) (A := A) (by decide) (hf _ (by decide +kernel)) (va_eqt (hf (Cond.eq (.length (Term.static "PatchStoreModel" "FIRST" "[J")) (.int 8)) (by decide +kernel))) (fun j hj => va_eqtl (hf _ (xs_FIRST_mem j hj))) hA
  exact ⟨t, va_Zof (hts _ (List.mem_append_right _ (show ((Jvm.Cond.laysStatic "PatchStoreModel" "FIRST" "[J") : Cond) ∈ tables_1 from (List.mem_append_right _ (List.mem_append_right _ (List.mem_append_right _ (List.mem_append_right _ (List.mem_append_right _ (List.mem_append_right _ (List.mem_append_right _ (List.mem_append_left _ (List.mem_of_getElem? (i := 97) rfl)))))))))))) (hts _ (List.mem_filter.mp gw_13).1) ht hA, hT⟩
theorem xs_ROOTS_mem : ∀ j, j < 80 → (Cond.eq (.elem (Term.static "PatchStoreModel" "ROOTS" "[J") (.int (Int32.ofNat j))) (.long (sh_ROOTS j))) ∈ flatC narrow_1 := by decide +kernel
theorem xs_ROOTS_start {b : Addr} {s : State} {A : Nat → Prop} (hts : ∀ w ∈ lw_tbl, w.before #[Value.ref b] s = true) (hf : ∀ w ∈ flatC narrow_1, w.before #[Value.ref b] s = true) (hA : ∀ a : Nat, a < s.heap.size → ¬ A a) : xs_L "PatchStoreModel" "ROOTS" 80 sh_ROOTS A s s.heap := by
  obtain ⟨t, ht, hT⟩ := va_Tof (args := #[Value.ref b]) (tm := (Term.static "PatchStoreModel" "ROOTS" "[J")) (ty := .long) (N := 80) (f := fun j => .long (sh_ROOTS j)) (A := A) (by decide) (hf _ (by decide +kernel)) (va_eqt (hf (Cond.eq (.length (Term.static "PatchStoreModel" "ROOTS" "[J")) (.int 80)) (by decide +kernel))) (fun j hj => va_eqtl (hf _ (xs_ROOTS_mem j hj))) hA
  exact ⟨t, va_Zof (hts _ (List.mem_append_right _ (show ((Jvm.Cond.laysStatic "PatchStoreModel" "ROOTS" "[J") : Cond) ∈ tables_1 from (List.mem_append_right _ (List.mem_append_right _ (List.mem_append_right _ (List.mem_append_right _ (List.mem_append_right _ (List.mem_append_right _ (List.mem_append_right _ (List.mem_append_left _ (List.mem_of_getElem? (i := 129) rfl)))))))))))) (hts _ (List.mem_filter.mp gw_13).1) ht hA, hT⟩
theorem xn_mem : ∀ q ∈ xn_L, (Cond.not (.castable q.1 q.2)) ∈ flatC narrow_1 := by decide +kernel
theorem xn_start {b : Addr} {s : State} (hf : ∀ w ∈ flatC narrow_1, w.before #[Value.ref b] s = true) : xn s := fun q hq => va_Nc.of (hf _ (xn_mem q hq))
theorem xe_start {b : Addr} {s : State} (hts : ∀ w ∈ lw_tbl, w.before #[Value.ref b] s = true) (hf : ∀ w ∈ flatC narrow_1, w.before #[Value.ref b] s = true) : xe (fun q => s.heap.size ≤ q) s s.heap := by
  have hA : ∀ a : Nat, a < s.heap.size → ¬ (fun q => s.heap.size ≤ q) a := fun a h => Nat.not_le.mpr h
  exact ⟨⟨xc_Zs.of (hts _ (List.mem_append_right _ (show ((Jvm.Cond.laysStatic "java/lang/Throwable" "UNASSIGNED_STACK" "[Ljava/lang/StackTraceElement;") : Cond) ∈ tables_1 from (List.mem_append_right _ (List.mem_append_right _ (List.mem_append_left _ (List.mem_of_getElem? (i := 145) rfl))))))) (hf (Cond.isRef (.static "java/lang/Throwable" "UNASSIGNED_STACK" "[Ljava/lang/StackTraceElement;")) (by decide +kernel)) hA, xc_Zs.of (hts _ (List.mem_append_right _ (show ((Jvm.Cond.laysStatic "java/lang/Throwable" "SUPPRESSED_SENTINEL" "Ljava/util/List;") : Cond) ∈ tables_1 from (List.mem_append_right _ (List.mem_append_right _ (List.mem_append_left _ (List.mem_of_getElem? (i := 147) rfl))))))) (hf (Cond.isRef (.static "java/lang/Throwable" "SUPPRESSED_SENTINEL" "Ljava/util/List;")) (by decide +kernel)) hA⟩, xs_START_start hts hf hA, xs_ROUND_start hts hf hA, xs_FIRST_start hts hf hA, xs_ROOTS_start hts hf hA, xa_start hts⟩
