section
/-! 12.small2.lean.txt -/
theorem gw_113 : (Jvm.Cond.fieldLink "PatchStore" (279 : Nat) "PatchStore$Changes" "files" "I") ∈ xg_1 := xg_s1 113 rfl rfl
theorem gw_164 : (Jvm.Cond.fieldLink "PatchStore" (276 : Nat) "PatchStore$Lines" "total" "I") ∈ xg_1 := xg_s1 164 rfl rfl
theorem gw_193 : (Jvm.Cond.fieldLink "PatchStore" (151 : Nat) "PatchStore$Stock" "from" "[I") ∈ xg_1 := xg_s1 193 rfl rfl
theorem gw_228 : (Jvm.Cond.fieldLink "PatchStore" (224 : Nat) "PatchStore$Stock" "changes" "LPatchStore$Changes;") ∈ xg_1 := xg_s1 228 rfl rfl
theorem gw_234 : (Jvm.Cond.fieldLink "PatchStore" (259 : Nat) "PatchStore$Stock" "lines" "LPatchStore$Lines;") ∈ xg_1 := xg_s1 234 rfl rfl
theorem gw_242 : (Jvm.Cond.fieldLink "PatchStore" (273 : Nat) "PatchStore$Stock" "patches" "I") ∈ xg_1 := xg_s2 2 rfl rfl
theorem gw_549 : (Jvm.Cond.fieldLink "PatchStore" (16 : Nat) "PatchStore" "repositories" "[LPatchStore$Repository;") ∈ xg_1 := xg_s3 69 rfl rfl
theorem gw_551 : (Jvm.Cond.fieldLink "PatchStore" (30 : Nat) "PatchStore" "stock" "LPatchStore$Stock;") ∈ xg_1 := xg_s3 71 rfl rfl
def y_PS_count : MethodName := ⟨"PatchStore", "count", "(I)I"⟩
abbrev c_PS_count : Cond := (Jvm.Cond.code ({ cls := "PatchStore", name := "count", desc := "(I)I" } : Jvm.MethodName) prog_1_method_19_code (2 : Nat) (Option.some Jvm.ClassFile.FieldType.int))
abbrev ws_PS_count : List Cond := c_PS_count :: xg_1
theorem d_PS_count_0 : decode prog_1_method_19_code 0 = .ok (.iload_n 1, 1) := by decide +kernel
theorem d_PS_count_1 : decode prog_1_method_19_code 1 = .ok (.tableswitch 86 0 4 #[35, 40, 48, 59, 70], 35) := by decide +kernel
theorem d_PS_count_36 : decode prog_1_method_19_code 36 = .ok (.aload_n 0, 1) := by decide +kernel
theorem d_PS_count_37 : decode prog_1_method_19_code 37 = .ok (.getfield 76, 3) := by decide +kernel
theorem d_PS_count_40 : decode prog_1_method_19_code 40 = .ok (.ireturn, 1) := by decide +kernel
theorem d_PS_count_41 : decode prog_1_method_19_code 41 = .ok (.aload_n 0, 1) := by decide +kernel
theorem d_PS_count_42 : decode prog_1_method_19_code 42 = .ok (.getfield 30, 3) := by decide +kernel
theorem d_PS_count_45 : decode prog_1_method_19_code 45 = .ok (.getfield 273, 3) := by decide +kernel
theorem d_PS_count_48 : decode prog_1_method_19_code 48 = .ok (.ireturn, 1) := by decide +kernel
theorem d_PS_count_49 : decode prog_1_method_19_code 49 = .ok (.aload_n 0, 1) := by decide +kernel
theorem d_PS_count_50 : decode prog_1_method_19_code 50 = .ok (.getfield 30, 3) := by decide +kernel
theorem d_PS_count_53 : decode prog_1_method_19_code 53 = .ok (.getfield 259, 3) := by decide +kernel
theorem d_PS_count_56 : decode prog_1_method_19_code 56 = .ok (.getfield 276, 3) := by decide +kernel
theorem d_PS_count_59 : decode prog_1_method_19_code 59 = .ok (.ireturn, 1) := by decide +kernel
theorem d_PS_count_60 : decode prog_1_method_19_code 60 = .ok (.aload_n 0, 1) := by decide +kernel
theorem d_PS_count_61 : decode prog_1_method_19_code 61 = .ok (.getfield 30, 3) := by decide +kernel
theorem d_PS_count_64 : decode prog_1_method_19_code 64 = .ok (.getfield 224, 3) := by decide +kernel
theorem d_PS_count_67 : decode prog_1_method_19_code 67 = .ok (.getfield 279, 3) := by decide +kernel
theorem d_PS_count_70 : decode prog_1_method_19_code 70 = .ok (.ireturn, 1) := by decide +kernel
theorem d_PS_count_71 : decode prog_1_method_19_code 71 = .ok (.aload_n 0, 1) := by decide +kernel
theorem d_PS_count_72 : decode prog_1_method_19_code 72 = .ok (.getfield 30, 3) := by decide +kernel
theorem d_PS_count_75 : decode prog_1_method_19_code 75 = .ok (.getfield 151, 3) := by decide +kernel
theorem d_PS_count_78 : decode prog_1_method_19_code 78 = .ok (.aload_n 0, 1) := by decide +kernel
theorem d_PS_count_79 : decode prog_1_method_19_code 79 = .ok (.getfield 30, 3) := by decide +kernel
theorem d_PS_count_82 : decode prog_1_method_19_code 82 = .ok (.getfield 273, 3) := by decide +kernel
theorem d_PS_count_85 : decode prog_1_method_19_code 85 = .ok (.iaload, 1) := by decide +kernel
theorem d_PS_count_86 : decode prog_1_method_19_code 86 = .ok (.ireturn, 1) := by decide +kernel
theorem d_PS_count_87 : decode prog_1_method_19_code 87 = .ok (.iconst (-1), 1) := by decide +kernel
theorem d_PS_count_88 : decode prog_1_method_19_code 88 = .ok (.ireturn, 1) := by decide +kernel
def y_PS_checkPatch : MethodName := ⟨"PatchStore", "checkPatch", "(I)V"⟩
abbrev c_PS_checkPatch : Cond := (Jvm.Cond.code ({ cls := "PatchStore", name := "checkPatch", desc := "(I)V" } : Jvm.MethodName) prog_1_method_24_code (2 : Nat) (Option.none : Option Jvm.ClassFile.FieldType))
abbrev ws_PS_checkPatch : List Cond := c_PS_checkPatch :: xg_1
theorem d_PS_checkPatch_0 : decode prog_1_method_24_code 0 = .ok (.iload_n 1, 1) := by decide +kernel
theorem d_PS_checkPatch_1 : decode prog_1_method_24_code 1 = .ok (.ifCond .lt 14, 3) := by decide +kernel
theorem d_PS_checkPatch_4 : decode prog_1_method_24_code 4 = .ok (.iload_n 1, 1) := by decide +kernel
theorem d_PS_checkPatch_5 : decode prog_1_method_24_code 5 = .ok (.aload_n 0, 1) := by decide +kernel
theorem d_PS_checkPatch_6 : decode prog_1_method_24_code 6 = .ok (.getfield 30, 3) := by decide +kernel
theorem d_PS_checkPatch_9 : decode prog_1_method_24_code 9 = .ok (.getfield 273, 3) := by decide +kernel
theorem d_PS_checkPatch_12 : decode prog_1_method_24_code 12 = .ok (.if_icmp .lt 11, 3) := by decide +kernel
theorem d_PS_checkPatch_15 : decode prog_1_method_24_code 15 = .ok (.new 174, 3) := by decide +kernel
theorem d_PS_checkPatch_18 : decode prog_1_method_24_code 18 = .ok (.dup, 1) := by decide +kernel
theorem d_PS_checkPatch_19 : decode prog_1_method_24_code 19 = .ok (.invokespecial 176, 3) := by decide +kernel
theorem d_PS_checkPatch_22 : decode prog_1_method_24_code 22 = .ok (.athrow, 1) := by decide +kernel
theorem d_PS_checkPatch_23 : decode prog_1_method_24_code 23 = .ok (.return_, 1) := by decide +kernel
def y_PS_checkHashIndex : MethodName := ⟨"PatchStore", "checkHashIndex", "(I)V"⟩
abbrev c_PS_checkHashIndex : Cond := (Jvm.Cond.code ({ cls := "PatchStore", name := "checkHashIndex", desc := "(I)V" } : Jvm.MethodName) prog_1_method_25_code (2 : Nat) (Option.none : Option Jvm.ClassFile.FieldType))
abbrev ws_PS_checkHashIndex : List Cond := c_PS_checkHashIndex :: xg_1
theorem d_PS_checkHashIndex_0 : decode prog_1_method_25_code 0 = .ok (.iload_n 1, 1) := by decide +kernel
theorem d_PS_checkHashIndex_1 : decode prog_1_method_25_code 1 = .ok (.ifCond .lt 9, 3) := by decide +kernel
theorem d_PS_checkHashIndex_4 : decode prog_1_method_25_code 4 = .ok (.iload_n 1, 1) := by decide +kernel
theorem d_PS_checkHashIndex_5 : decode prog_1_method_25_code 5 = .ok (.bipush 32, 2) := by decide +kernel
theorem d_PS_checkHashIndex_7 : decode prog_1_method_25_code 7 = .ok (.if_icmp .lt 11, 3) := by decide +kernel
theorem d_PS_checkHashIndex_10 : decode prog_1_method_25_code 10 = .ok (.new 253, 3) := by decide +kernel
theorem d_PS_checkHashIndex_13 : decode prog_1_method_25_code 13 = .ok (.dup, 1) := by decide +kernel
theorem d_PS_checkHashIndex_14 : decode prog_1_method_25_code 14 = .ok (.invokespecial 255, 3) := by decide +kernel
theorem d_PS_checkHashIndex_17 : decode prog_1_method_25_code 17 = .ok (.athrow, 1) := by decide +kernel
theorem d_PS_checkHashIndex_18 : decode prog_1_method_25_code 18 = .ok (.return_, 1) := by decide +kernel
def y_PS_repositoryAt : MethodName := ⟨"PatchStore", "repositoryAt", "(I)LPatchStore$Repository;"⟩
abbrev c_PS_repositoryAt : Cond := (Jvm.Cond.code ({ cls := "PatchStore", name := "repositoryAt", desc := "(I)LPatchStore$Repository;" } : Jvm.MethodName) prog_1_method_22_code (2 : Nat) (Option.some (Jvm.ClassFile.FieldType.object "PatchStore$Repository")))
abbrev ws_PS_repositoryAt : List Cond := c_PS_repositoryAt :: xg_1
theorem d_PS_repositoryAt_0 : decode prog_1_method_22_code 0 = .ok (.iload_n 1, 1) := by decide +kernel
theorem d_PS_repositoryAt_1 : decode prog_1_method_22_code 1 = .ok (.ifCond .lt 9, 3) := by decide +kernel
theorem d_PS_repositoryAt_4 : decode prog_1_method_22_code 4 = .ok (.iload_n 1, 1) := by decide +kernel
theorem d_PS_repositoryAt_5 : decode prog_1_method_22_code 5 = .ok (.bipush 8, 2) := by decide +kernel
theorem d_PS_repositoryAt_7 : decode prog_1_method_22_code 7 = .ok (.if_icmp .lt 11, 3) := by decide +kernel
theorem d_PS_repositoryAt_10 : decode prog_1_method_22_code 10 = .ok (.new 174, 3) := by decide +kernel
theorem d_PS_repositoryAt_13 : decode prog_1_method_22_code 13 = .ok (.dup, 1) := by decide +kernel
theorem d_PS_repositoryAt_14 : decode prog_1_method_22_code 14 = .ok (.invokespecial 176, 3) := by decide +kernel
theorem d_PS_repositoryAt_17 : decode prog_1_method_22_code 17 = .ok (.athrow, 1) := by decide +kernel
theorem d_PS_repositoryAt_18 : decode prog_1_method_22_code 18 = .ok (.aload_n 0, 1) := by decide +kernel
theorem d_PS_repositoryAt_19 : decode prog_1_method_22_code 19 = .ok (.getfield 16, 3) := by decide +kernel
theorem d_PS_repositoryAt_22 : decode prog_1_method_22_code 22 = .ok (.iload_n 1, 1) := by decide +kernel
theorem d_PS_repositoryAt_23 : decode prog_1_method_22_code 23 = .ok (.aaload, 1) := by decide +kernel
theorem d_PS_repositoryAt_24 : decode prog_1_method_22_code 24 = .ok (.areturn, 1) := by decide +kernel
def ps_count (x : Int32) (L P F T : Nat) (f : Nat → Int32) : Int32 := if x = 0 then nI L else if x = 1 then nI P else if x = 2 then nI T else if x = 3 then nI F else if x = 4 then f P else -1
theorem ps_count_out {x : Int32} {L P F T : Nat} {f : Nat → Int32} (h : x < 0 ∨ nI 5 ≤ x) : -1 = ps_count x L P F T f := by
  have h0 : ∀ k : Nat, k < 5 → ¬ x = nI k := by
    intro k hk e
    subst e
    rcases h with h | h
    · exact nI_pos (by omega) h
    · exact nI_ge hk (by decide) h
  have a0 : ¬ x = 0 := h0 0 (by decide)
  have a1 : ¬ x = 1 := h0 1 (by decide)
  have a2 : ¬ x = 2 := h0 2 (by decide)
  have a3 : ¬ x = 3 := h0 3 (by decide)
  have a4 : ¬ x = 4 := h0 4 (by decide)
  simp [ps_count, a0, a1, a2, a3, a4]
set_option maxHeartbeats 4000000 in
set_option maxRecDepth 100000 in
/-- count -/
theorem m_PS_count (l : Launch) (dC : Nat → ClassId) (dI : Nat → Nat → Nat) (cI cB cL cZ cR : ClassId) (h sk ch ln fr : Nat) (ps_tape ps_repositories ps_sha ps_intake ps_view ps_text ps_maker ps_recording ps_lastFault sk_bytes sk_firstDependency sk_firstChange sk_dependencies sk_hashes sk_byHash sk_leansOn sk_leantBy ch_at ch_patch ch_file ch_firstLine ch_adds ln_at ln_length ln_change ln_place ln_up ln_down ln_ofFile : Value) (L P F T : Nat) (f : Nat → Int32) (p0 : Int32) (sz : Nat) (hP9 : P < 502) : Met l y_PS_count ws_PS_count ({ frames := 0, cells := 0, slots := 0, locals := 0 }) (xw_Pc dC dI [(cI, .int), (cB, .byte), (cL, .long), (cZ, .boolean), (cR, .object "PatchStore$Repository")] [.ref h, .int p0] [(h, .inr (0, [ps_tape, ps_repositories, ps_sha, .ref sk, ps_intake, ps_view, ps_text, ps_maker, ps_recording, .int (nI L), ps_lastFault])), (sk, .inr (9, [sk_bytes, .ref fr, sk_firstDependency, sk_firstChange, sk_dependencies, sk_hashes, sk_byHash, sk_leansOn, sk_leantBy, .ref ch, .ref ln, .int (nI P)])), (ch, .inr (1, [ch_at, ch_patch, ch_file, ch_firstLine, ch_adds, .int (nI F)])), (ln, .inr (4, [ln_at, ln_length, ln_change, ln_place, ln_up, ln_down, ln_ofFile, .int (nI T)])), (fr, .inl (cI, 502, .inl f))] sz) (va_Qi (fun (r : Int32) (_ : Unit) => r = ps_count p0 L P F T f) (fun _ t => xw_B dC dI [(cI, .int), (cB, .byte), (cL, .long), (cZ, .boolean), (cR, .object "PatchStore$Repository")] (va_A [(h, .inr (0, [ps_tape, ps_repositories, ps_sha, .ref sk, ps_intake, ps_view, ps_text, ps_maker, ps_recording, .int (nI L), ps_lastFault])), (sk, .inr (9, [sk_bytes, .ref fr, sk_firstDependency, sk_firstChange, sk_dependencies, sk_hashes, sk_byHash, sk_leansOn, sk_leantBy, .ref ch, .ref ln, .int (nI P)])), (ch, .inr (1, [ch_at, ch_patch, ch_file, ch_firstLine, ch_adds, .int (nI F)])), (ln, .inr (4, [ln_at, ln_length, ln_change, ln_place, ln_up, ln_down, ln_ofFile, .int (nI T)])), (fr, .inl (cI, 502, .inl f))] sz) [(h, .inr (0, [ps_tape, ps_repositories, ps_sha, .ref sk, ps_intake, ps_view, ps_text, ps_maker, ps_recording, .int (nI L), ps_lastFault])), (sk, .inr (9, [sk_bytes, .ref fr, sk_firstDependency, sk_firstChange, sk_dependencies, sk_hashes, sk_byHash, sk_leansOn, sk_leantBy, .ref ch, .ref ln, .int (nI P)])), (ch, .inr (1, [ch_at, ch_patch, ch_file, ch_firstLine, ch_adds, .int (nI F)])), (ln, .inr (4, [ln_at, ln_length, ln_change, ln_place, ln_up, ln_down, ln_ofFile, .int (nI T)])), (fr, .inl (cI, 502, .inl f))] t) (va_A [(h, .inr (0, [ps_tape, ps_repositories, ps_sha, .ref sk, ps_intake, ps_view, ps_text, ps_maker, ps_recording, .int (nI L), ps_lastFault])), (sk, .inr (9, [sk_bytes, .ref fr, sk_firstDependency, sk_firstChange, sk_dependencies, sk_hashes, sk_byHash, sk_leansOn, sk_leantBy, .ref ch, .ref ln, .int (nI P)])), (ch, .inr (1, [ch_at, ch_patch, ch_file, ch_firstLine, ch_adds, .int (nI F)])), (ln, .inr (4, [ln_at, ln_length, ln_change, ln_place, ln_up, ln_down, ln_ofFile, .int (nI T)])), (fr, .inl (cI, 502, .inl f))] sz)) 0 0 (va_A [(h, .inr (0, [ps_tape, ps_repositories, ps_sha, .ref sk, ps_intake, ps_view, ps_text, ps_maker, ps_recording, .int (nI L), ps_lastFault])), (sk, .inr (9, [sk_bytes, .ref fr, sk_firstDependency, sk_firstChange, sk_dependencies, sk_hashes, sk_byHash, sk_leansOn, sk_leantBy, .ref ch, .ref ln, .int (nI P)])), (ch, .inr (1, [ch_at, ch_patch, ch_file, ch_firstLine, ch_adds, .int (nI F)])), (ln, .inr (4, [ln_at, ln_length, ln_change, ln_place, ln_up, ln_down, ln_ofFile, .int (nI T)])), (fr, .inl (cI, 502, .inl f))] sz) := by
  refine Met.ofW (cc := prog_1_method_19_code) (maxL := 2) (ret := (Option.some Jvm.ClassFile.FieldType.int)) (by decide) rfl ?_
  intro p e s m args below meth c s₁ B hml hv
  obtain ⟨rfl, hsz, hP, hK, hD0⟩ := hv
  have hx := B.exec
  have hb := B.bytes
  have hr := B.returns
  have hts0 := atoms_spec (ws := ws_PS_count) B.pre
  have hts : ∀ w ∈ xg_1, w.before _ s = true := fun w h => hts0 w (List.mem_cons_of_mem _ h)
  have hown : s.vm.findClass "PatchStore" = some m.cls := findClass_of_methodNamed B.named
  have hlocks := B.notSynchronized
  subst hsz
  have hD := hD0.self (sz := s.heap.size)
  generalize hAe : va_A [(h, .inr (0, [ps_tape, ps_repositories, ps_sha, .ref sk, ps_intake, ps_view, ps_text, ps_maker, ps_recording, .int (nI L), ps_lastFault])), (sk, .inr (9, [sk_bytes, .ref fr, sk_firstDependency, sk_firstChange, sk_dependencies, sk_hashes, sk_byHash, sk_leansOn, sk_leantBy, .ref ch, .ref ln, .int (nI P)])), (ch, .inr (1, [ch_at, ch_patch, ch_file, ch_firstLine, ch_adds, .int (nI F)])), (ln, .inr (4, [ln_at, ln_length, ln_change, ln_place, ln_up, ln_down, ln_ofFile, .int (nI T)])), (fr, .inl (cI, 502, .inl f))] s.heap.size = A at hD ⊢
  have hA : ∀ q : Nat, s.heap.size ≤ q → A q := fun q h => by rw [← hAe]; exact Or.inr h
  have hS : va_S A s.heap s.heap [] := va_S.rf
  have hl := lv_entry ([.ref h, .int p0]) (n := 2) (Nat.le_of_ble_eq_true rfl)
  rw [lg_entry_eq]
  generalize (lg_sl ([.ref h, .int p0]) ++ List.replicate (2 - (lg_sl ([.ref h, .int p0])).length) Slot.unset).toArray = ls at hl ⊢
  have hl : lv_has ls 2 [(0, .ref h), (1, .int p0)] := hl
  refine lv_iload_n hx hb d_PS_count_0 rfl (lv_at hl 1 rfl) ?_
  rcases pk_ix p0 (n := 5) (by decide) with hs | hs | ⟨j_1, hj, rfl⟩
  · refine lv_tableOut (tgt := 87) hx hb d_PS_count_1 (Or.inl (by have := Int32.lt_iff_toInt_lt.mp hs; simpa using this)) (by decide) ?_
    refine lv_iconst (v := (-1)) hx hb d_PS_count_87 (by decide) ?_
    exact W.iret (v := -1) hx hb hr (fun t ht hW => ⟨⟨_, (), rfl, ps_count_out (Or.inl hs), by rw [ht]; exact hP, va_K.moved hW.alike hK, hD⟩, hS.F ht⟩) hS.2.2 d_PS_count_88
  · refine lv_tableOut (tgt := 87) hx hb d_PS_count_1 (Or.inr (by have h9 := Int32.le_iff_toInt_le.mp hs; rw [nI_toInt (by decide)] at h9; omega)) (by decide) ?_
    refine lv_iconst (v := (-1)) hx hb d_PS_count_87 (by decide) ?_
    exact W.iret (v := -1) hx hb hr (fun t ht hW => ⟨⟨_, (), rfl, ps_count_out (Or.inr hs), by rw [ht]; exact hP, va_K.moved hW.alike hK, hD⟩, hS.F ht⟩) hS.2.2 d_PS_count_88
  · rcases (show j_1 = 0 ∨ j_1 = 1 ∨ j_1 = 2 ∨ j_1 = 3 ∨ j_1 = 4 by omega) with rfl | rfl | rfl | rfl | rfl
    · refine lv_tableIn (tgt := 36) (off := 35) hx hb d_PS_count_1 (by decide) (by decide) (by decide) (by decide) ?_
      refine lv_aload_n hx hb d_PS_count_36 rfl (lv_at hl 0 rfl) ?_
      refine va_get (D := (dC, dI)) (ci := 0) (v := .int (nI L)) (C := R_PS) (T := F_PS) (N := 11) hx hb hts i_PS hown hK hP 0 rfl rfl 9 (by decide) (hts _ gw_557) (fun _ h9 => h9) rfl d_PS_count_37 ?_
      exact W.iret (v := nI L) hx hb hr (fun t ht hW => ⟨⟨_, (), rfl, rfl, by rw [ht]; exact hP, va_K.moved hW.alike hK, hD⟩, hS.F ht⟩) hS.2.2 d_PS_count_40
    · refine lv_tableIn (tgt := 41) (off := 40) hx hb d_PS_count_1 (by decide) (by decide) (by decide) (by decide) ?_
      refine lv_aload_n hx hb d_PS_count_41 rfl (lv_at hl 0 rfl) ?_
      refine va_get (D := (dC, dI)) (ci := 0) (v := .ref sk) (C := R_PS) (T := F_PS) (N := 11) hx hb hts i_PS hown hK hP 0 rfl rfl 3 (by decide) (hts _ gw_551) (fun _ h9 => h9) rfl d_PS_count_42 ?_
      refine va_get (D := (dC, dI)) (ci := 9) (v := .int (nI P)) (C := R_St) (T := F_St) (N := 12) hx hb hts i_St hown hK hP 1 rfl rfl 11 (by decide) (hts _ gw_242) (fun _ h9 => h9) rfl d_PS_count_45 ?_
      exact W.iret (v := nI P) hx hb hr (fun t ht hW => ⟨⟨_, (), rfl, rfl, by rw [ht]; exact hP, va_K.moved hW.alike hK, hD⟩, hS.F ht⟩) hS.2.2 d_PS_count_48
    · refine lv_tableIn (tgt := 49) (off := 48) hx hb d_PS_count_1 (by decide) (by decide) (by decide) (by decide) ?_
      refine lv_aload_n hx hb d_PS_count_49 rfl (lv_at hl 0 rfl) ?_
      refine va_get (D := (dC, dI)) (ci := 0) (v := .ref sk) (C := R_PS) (T := F_PS) (N := 11) hx hb hts i_PS hown hK hP 0 rfl rfl 3 (by decide) (hts _ gw_551) (fun _ h9 => h9) rfl d_PS_count_50 ?_
      refine va_get (D := (dC, dI)) (ci := 9) (v := .ref ln) (C := R_St) (T := F_St) (N := 12) hx hb hts i_St hown hK hP 1 rfl rfl 10 (by decide) (hts _ gw_234) (fun _ h9 => h9) rfl d_PS_count_53 ?_
      refine va_get (D := (dC, dI)) (ci := 4) (v := .int (nI T)) (C := R_Li) (T := F_Li) (N := 8) hx hb hts i_Li hown hK hP 3 rfl rfl 7 (by decide) (hts _ gw_164) (fun _ h9 => h9) rfl d_PS_count_56 ?_
      exact W.iret (v := nI T) hx hb hr (fun t ht hW => ⟨⟨_, (), rfl, rfl, by rw [ht]; exact hP, va_K.moved hW.alike hK, hD⟩, hS.F ht⟩) hS.2.2 d_PS_count_59
    · refine lv_tableIn (tgt := 60) (off := 59) hx hb d_PS_count_1 (by decide) (by decide) (by decide) (by decide) ?_
      refine lv_aload_n hx hb d_PS_count_60 rfl (lv_at hl 0 rfl) ?_
      refine va_get (D := (dC, dI)) (ci := 0) (v := .ref sk) (C := R_PS) (T := F_PS) (N := 11) hx hb hts i_PS hown hK hP 0 rfl rfl 3 (by decide) (hts _ gw_551) (fun _ h9 => h9) rfl d_PS_count_61 ?_
      refine va_get (D := (dC, dI)) (ci := 9) (v := .ref ch) (C := R_St) (T := F_St) (N := 12) hx hb hts i_St hown hK hP 1 rfl rfl 9 (by decide) (hts _ gw_228) (fun _ h9 => h9) rfl d_PS_count_64 ?_
      refine va_get (D := (dC, dI)) (ci := 1) (v := .int (nI F)) (C := R_Ch) (T := F_Ch) (N := 6) hx hb hts i_Ch hown hK hP 2 rfl rfl 5 (by decide) (hts _ gw_113) (fun _ h9 => h9) rfl d_PS_count_67 ?_
      exact W.iret (v := nI F) hx hb hr (fun t ht hW => ⟨⟨_, (), rfl, rfl, by rw [ht]; exact hP, va_K.moved hW.alike hK, hD⟩, hS.F ht⟩) hS.2.2 d_PS_count_70
    · refine lv_tableIn (tgt := 71) (off := 70) hx hb d_PS_count_1 (by decide) (by decide) (by decide) (by decide) ?_
      refine lv_aload_n hx hb d_PS_count_71 rfl (lv_at hl 0 rfl) ?_
      refine va_get (D := (dC, dI)) (ci := 0) (v := .ref sk) (C := R_PS) (T := F_PS) (N := 11) hx hb hts i_PS hown hK hP 0 rfl rfl 3 (by decide) (hts _ gw_551) (fun _ h9 => h9) rfl d_PS_count_72 ?_
      refine va_get (D := (dC, dI)) (ci := 9) (v := .ref fr) (C := R_St) (T := F_St) (N := 12) hx hb hts i_St hown hK hP 1 rfl rfl 1 (by decide) (hts _ gw_193) (fun _ h9 => h9) rfl d_PS_count_75 ?_
      refine lv_aload_n hx hb d_PS_count_78 rfl (lv_at hl 0 rfl) ?_
      refine va_get (D := (dC, dI)) (ci := 0) (v := .ref sk) (C := R_PS) (T := F_PS) (N := 11) hx hb hts i_PS hown hK hP 0 rfl rfl 3 (by decide) (hts _ gw_551) (fun _ h9 => h9) rfl d_PS_count_79 ?_
      refine va_get (D := (dC, dI)) (ci := 9) (v := .int (nI P)) (C := R_St) (T := F_St) (N := 12) hx hb hts i_St hown hK hP 1 rfl rfl 11 (by decide) (hts _ gw_242) (fun _ h9 => h9) rfl d_PS_count_82 ?_
      refine va_iald hx hb hK hP 4 0 rfl rfl (vp_in_nI (by omega) (by omega)) d_PS_count_85 ?_
      rw [show (nI P).toNatClampNeg = P from nI_clamp (by omega)]
      exact W.iret (v := f P) hx hb hr (fun t ht hW => ⟨⟨_, (), rfl, rfl, by rw [ht]; exact hP, va_K.moved hW.alike hK, hD⟩, hS.F ht⟩) hS.2.2 d_PS_count_86
set_option maxHeartbeats 4000000 in
set_option maxRecDepth 100000 in
/-- checkPatch -/
theorem m_PS_checkPatch (l : Launch) (dC : Nat → ClassId) (dI : Nat → Nat → Nat) (cI cB cL cZ cR : ClassId) (hlt : xl_T l) (h sk : Nat) (ps_tape ps_repositories ps_sha ps_intake ps_view ps_text ps_maker ps_recording ps_tapeLength ps_lastFault sk_bytes sk_from sk_firstDependency sk_firstChange sk_dependencies sk_hashes sk_byHash sk_leansOn sk_leantBy sk_changes sk_lines : Value) (P : Nat) (p0 : Int32) (sz : Nat) (hP9 : P < 2 ^ 31) : xc_Met l y_PS_checkPatch ws_PS_checkPatch ({ frames := 8, cells := 1, slots := 6, locals := 200 }) (xw_Px dC dI [(cI, .int), (cB, .byte), (cL, .long), (cZ, .boolean), (cR, .object "PatchStore$Repository")] [.ref h, .int p0] [(h, .inr (0, [ps_tape, ps_repositories, ps_sha, .ref sk, ps_intake, ps_view, ps_text, ps_maker, ps_recording, ps_tapeLength, ps_lastFault])), (sk, .inr (9, [sk_bytes, sk_from, sk_firstDependency, sk_firstChange, sk_dependencies, sk_hashes, sk_byHash, sk_leansOn, sk_leantBy, sk_changes, sk_lines, .int (nI P)]))] sz) (xc_Q (S := Unit) (fun v (_ : Unit) => (∃ n : Nat, n < P ∧ p0 = nI n) ∧ v = none) (fun C (_ : Unit) => (¬ ∃ n : Nat, n < P ∧ p0 = nI n) ∧ C = "java/util/NoSuchElementException") (fun _ t => xw_B dC dI [(cI, .int), (cB, .byte), (cL, .long), (cZ, .boolean), (cR, .object "PatchStore$Repository")] (va_A [(h, .inr (0, [ps_tape, ps_repositories, ps_sha, .ref sk, ps_intake, ps_view, ps_text, ps_maker, ps_recording, ps_tapeLength, ps_lastFault])), (sk, .inr (9, [sk_bytes, sk_from, sk_firstDependency, sk_firstChange, sk_dependencies, sk_hashes, sk_byHash, sk_leansOn, sk_leantBy, sk_changes, sk_lines, .int (nI P)]))] sz) [(h, .inr (0, [ps_tape, ps_repositories, ps_sha, .ref sk, ps_intake, ps_view, ps_text, ps_maker, ps_recording, ps_tapeLength, ps_lastFault])), (sk, .inr (9, [sk_bytes, sk_from, sk_firstDependency, sk_firstChange, sk_dependencies, sk_hashes, sk_byHash, sk_leansOn, sk_leantBy, sk_changes, sk_lines, .int (nI P)]))] t) (va_A [(h, .inr (0, [ps_tape, ps_repositories, ps_sha, .ref sk, ps_intake, ps_view, ps_text, ps_maker, ps_recording, ps_tapeLength, ps_lastFault])), (sk, .inr (9, [sk_bytes, sk_from, sk_firstDependency, sk_firstChange, sk_dependencies, sk_hashes, sk_byHash, sk_leansOn, sk_leantBy, sk_changes, sk_lines, .int (nI P)]))] sz)) 1 6 (va_A [(h, .inr (0, [ps_tape, ps_repositories, ps_sha, .ref sk, ps_intake, ps_view, ps_text, ps_maker, ps_recording, ps_tapeLength, ps_lastFault])), (sk, .inr (9, [sk_bytes, sk_from, sk_firstDependency, sk_firstChange, sk_dependencies, sk_hashes, sk_byHash, sk_leansOn, sk_leantBy, sk_changes, sk_lines, .int (nI P)]))] sz) := by
  refine xc_ofW (cc := prog_1_method_24_code) (maxL := 2) (ret := none) (by decide) rfl ?_
  intro p e s m args below meth c s₁ B hml hno hv
  obtain ⟨rfl, hsz, hP, hK, hD0, hN, hTh⟩ := hv
  have htr : e.platform.stackTraces = false := hlt e B.admits
  have hx := B.exec
  have hb := B.bytes
  have hr := B.returns
  have hts0 := atoms_spec (ws := ws_PS_checkPatch) B.pre
  have hts : ∀ w ∈ xg_1, w.before _ s = true := fun w h => hts0 w (List.mem_cons_of_mem _ h)
  have hown : s.vm.findClass "PatchStore" = some m.cls := findClass_of_methodNamed B.named
  have hlocks := B.notSynchronized
  subst hsz
  have hD := hD0.self (sz := s.heap.size)
  generalize hAe : va_A [(h, .inr (0, [ps_tape, ps_repositories, ps_sha, .ref sk, ps_intake, ps_view, ps_text, ps_maker, ps_recording, ps_tapeLength, ps_lastFault])), (sk, .inr (9, [sk_bytes, sk_from, sk_firstDependency, sk_firstChange, sk_dependencies, sk_hashes, sk_byHash, sk_leansOn, sk_leantBy, sk_changes, sk_lines, .int (nI P)]))] s.heap.size = A at hD hTh ⊢
  have hA : ∀ q : Nat, s.heap.size ≤ q → A q := fun q h => by rw [← hAe]; exact Or.inr h
  have hS : va_S A s.heap s.heap [] := va_S.rf
  have hl := lv_entry ([.ref h, .int p0]) (n := 2) (Nat.le_of_ble_eq_true rfl)
  rw [lg_entry_eq]
  generalize (lg_sl ([.ref h, .int p0]) ++ List.replicate (2 - (lg_sl ([.ref h, .int p0])).length) Slot.unset).toArray = ls at hl ⊢
  have hl : lv_has ls 2 [(0, .ref h), (1, .int p0)] := hl
  refine lv_iload_n hx hb d_PS_checkPatch_0 rfl (lv_at hl 1 rfl) ?_
  refine lv_if_lt (tgt := 15) hx hb d_PS_checkPatch_1 (by decide) (fun c_1 => ?_) (fun c_1 => ?_)
  · have hc : ¬ ∃ n : Nat, n < P ∧ p0 = nI n := by rintro ⟨n, hn, rfl⟩; exact nI_pos (by omega) c_1
    refine xc_thrownew (A := A) (own := "PatchStore") (C := "java/util/NoSuchElementException") (names := ["java/lang/RuntimeException", "java/lang/Exception"]) (i1 := 174) (i2 := 176) hx hb hml hl.1 hown hlocks hno htr (by decide +kernel) (by decide +kernel) (tw_PS_174 hts hN) (tr_PS_174) (ti_PS_174) (hTh.1.kept (fun a h1 h2 => hS.2.1 a h1 h2)) d_PS_checkPatch_15 d_PS_checkPatch_18 d_PS_checkPatch_19 d_PS_checkPatch_22 (Nat.le_of_ble_eq_true rfl) (Nat.le_of_ble_eq_true rfl) (Nat.le_of_ble_eq_true rfl) (Nat.le_of_ble_eq_true rfl) (fun x9 t9 H9 e1 e2 e3 hW9 hex => ⟨Or.inr ⟨x9, "java/util/NoSuchElementException", (), rfl, ⟨hc, rfl⟩, hex, (by rw [e1]; exact hP.kept (fun k q hq => e3 q.1 ((hP k q hq).lt))), va_K.moved hW9.alike hK, hD⟩, (by rw [e1]; exact Nat.le_trans hS.1 e2), fun q h1 h2 => by rw [e1]; exact (e3 q (Nat.lt_of_lt_of_le h1 hS.1)).trans (hS.2.1 q h1 h2)⟩) hS.2.2
  · refine lv_iload_n hx hb d_PS_checkPatch_4 rfl (lv_at hl 1 rfl) ?_
    refine lv_aload_n hx hb d_PS_checkPatch_5 rfl (lv_at hl 0 rfl) ?_
    refine va_get (D := (dC, dI)) (ci := 0) (v := .ref sk) (C := R_PS) (T := F_PS) (N := 11) hx hb hts i_PS hown hK hP 0 rfl rfl 3 (by decide) (hts _ gw_551) (fun _ h9 => h9) rfl d_PS_checkPatch_6 ?_
    refine va_get (D := (dC, dI)) (ci := 9) (v := .int (nI P)) (C := R_St) (T := F_St) (N := 12) hx hb hts i_St hown hK hP 1 rfl rfl 11 (by decide) (hts _ gw_242) (fun _ h9 => h9) rfl d_PS_checkPatch_9 ?_
    refine lv_icmp_lt (tgt := 23) hx hb d_PS_checkPatch_12 (by decide) (fun c_12 => ?_) (fun c_12 => ?_)
    · obtain ⟨n0, hn0, hp0⟩ := nI_of c_1
      have hc : ∃ n : Nat, n < P ∧ p0 = nI n := ⟨n0, (nI_ltI hn0 (by omega)).mp (hp0 ▸ c_12), hp0⟩
      refine W.widen (k := 1) (n := 6) (Nat.le_of_ble_eq_true rfl) (Nat.le_of_ble_eq_true rfl) ?_
      exact xc_ret (W.vret hx hb hr (fun t ht hW => ⟨Or.inl ⟨_, (), rfl, ⟨hc, rfl⟩, (by rw [ht]; exact hP), va_K.moved hW.alike hK, hD⟩, hS.F ht⟩) hS.2.2 d_PS_checkPatch_23)
    · have hc : ¬ ∃ n : Nat, n < P ∧ p0 = nI n := by rintro ⟨n, hn, rfl⟩; exact c_12 (nI_lt hn (by omega))
      refine xc_thrownew (A := A) (own := "PatchStore") (C := "java/util/NoSuchElementException") (names := ["java/lang/RuntimeException", "java/lang/Exception"]) (i1 := 174) (i2 := 176) hx hb hml hl.1 hown hlocks hno htr (by decide +kernel) (by decide +kernel) (tw_PS_174 hts hN) (tr_PS_174) (ti_PS_174) (hTh.1.kept (fun a h1 h2 => hS.2.1 a h1 h2)) d_PS_checkPatch_15 d_PS_checkPatch_18 d_PS_checkPatch_19 d_PS_checkPatch_22 (Nat.le_of_ble_eq_true rfl) (Nat.le_of_ble_eq_true rfl) (Nat.le_of_ble_eq_true rfl) (Nat.le_of_ble_eq_true rfl) (fun x9 t9 H9 e1 e2 e3 hW9 hex => ⟨Or.inr ⟨x9, "java/util/NoSuchElementException", (), rfl, ⟨hc, rfl⟩, hex, (by rw [e1]; exact hP.kept (fun k q hq => e3 q.1 ((hP k q hq).lt))), va_K.moved hW9.alike hK, hD⟩, (by rw [e1]; exact Nat.le_trans hS.1 e2), fun q h1 h2 => by rw [e1]; exact (e3 q (Nat.lt_of_lt_of_le h1 hS.1)).trans (hS.2.1 q h1 h2)⟩) hS.2.2
set_option maxHeartbeats 4000000 in
set_option maxRecDepth 100000 in
/-- checkHashIndex -/
theorem m_PS_checkHashIndex (l : Launch) (dC : Nat → ClassId) (dI : Nat → Nat → Nat) (cI cB cL cZ cR : ClassId) (hlt : xl_T l) (h : Nat) (ps_tape ps_repositories ps_sha ps_stock ps_intake ps_view ps_text ps_maker ps_recording ps_tapeLength ps_lastFault : Value) (p0 : Int32) (sz : Nat) : xc_Met l y_PS_checkHashIndex ws_PS_checkHashIndex ({ frames := 8, cells := 1, slots := 6, locals := 200 }) (xw_Px dC dI [(cI, .int), (cB, .byte), (cL, .long), (cZ, .boolean), (cR, .object "PatchStore$Repository")] [.ref h, .int p0] [(h, .inr (0, [ps_tape, ps_repositories, ps_sha, ps_stock, ps_intake, ps_view, ps_text, ps_maker, ps_recording, ps_tapeLength, ps_lastFault]))] sz) (xc_Q (S := Unit) (fun v (_ : Unit) => (∃ n : Nat, n < 32 ∧ p0 = nI n) ∧ v = none) (fun C (_ : Unit) => (¬ ∃ n : Nat, n < 32 ∧ p0 = nI n) ∧ C = "java/lang/IndexOutOfBoundsException") (fun _ t => xw_B dC dI [(cI, .int), (cB, .byte), (cL, .long), (cZ, .boolean), (cR, .object "PatchStore$Repository")] (va_A [(h, .inr (0, [ps_tape, ps_repositories, ps_sha, ps_stock, ps_intake, ps_view, ps_text, ps_maker, ps_recording, ps_tapeLength, ps_lastFault]))] sz) [(h, .inr (0, [ps_tape, ps_repositories, ps_sha, ps_stock, ps_intake, ps_view, ps_text, ps_maker, ps_recording, ps_tapeLength, ps_lastFault]))] t) (va_A [(h, .inr (0, [ps_tape, ps_repositories, ps_sha, ps_stock, ps_intake, ps_view, ps_text, ps_maker, ps_recording, ps_tapeLength, ps_lastFault]))] sz)) 1 6 (va_A [(h, .inr (0, [ps_tape, ps_repositories, ps_sha, ps_stock, ps_intake, ps_view, ps_text, ps_maker, ps_recording, ps_tapeLength, ps_lastFault]))] sz) := by
  refine xc_ofW (cc := prog_1_method_25_code) (maxL := 2) (ret := none) (by decide) rfl ?_
  intro p e s m args below meth c s₁ B hml hno hv
  obtain ⟨rfl, hsz, hP, hK, hD0, hN, hTh⟩ := hv
  have htr : e.platform.stackTraces = false := hlt e B.admits
  have hx := B.exec
  have hb := B.bytes
  have hr := B.returns
  have hts0 := atoms_spec (ws := ws_PS_checkHashIndex) B.pre
  have hts : ∀ w ∈ xg_1, w.before _ s = true := fun w h => hts0 w (List.mem_cons_of_mem _ h)
  have hown : s.vm.findClass "PatchStore" = some m.cls := findClass_of_methodNamed B.named
  have hlocks := B.notSynchronized
  subst hsz
  have hD := hD0.self (sz := s.heap.size)
  generalize hAe : va_A [(h, .inr (0, [ps_tape, ps_repositories, ps_sha, ps_stock, ps_intake, ps_view, ps_text, ps_maker, ps_recording, ps_tapeLength, ps_lastFault]))] s.heap.size = A at hD hTh ⊢
  have hA : ∀ q : Nat, s.heap.size ≤ q → A q := fun q h => by rw [← hAe]; exact Or.inr h
  have hS : va_S A s.heap s.heap [] := va_S.rf
  have hl := lv_entry ([.ref h, .int p0]) (n := 2) (Nat.le_of_ble_eq_true rfl)
  rw [lg_entry_eq]
  generalize (lg_sl ([.ref h, .int p0]) ++ List.replicate (2 - (lg_sl ([.ref h, .int p0])).length) Slot.unset).toArray = ls at hl ⊢
  have hl : lv_has ls 2 [(0, .ref h), (1, .int p0)] := hl
  refine lv_iload_n hx hb d_PS_checkHashIndex_0 rfl (lv_at hl 1 rfl) ?_
  refine lv_if_lt (tgt := 10) hx hb d_PS_checkHashIndex_1 (by decide) (fun c_1 => ?_) (fun c_1 => ?_)
  · have hc : ¬ ∃ n : Nat, n < 32 ∧ p0 = nI n := by rintro ⟨n, hn, rfl⟩; exact nI_pos (by omega) c_1
    refine xc_thrownew (A := A) (own := "PatchStore") (C := "java/lang/IndexOutOfBoundsException") (names := ["java/lang/RuntimeException", "java/lang/Exception"]) (i1 := 253) (i2 := 255) hx hb hml hl.1 hown hlocks hno htr (by decide +kernel) (by decide +kernel) (tw_PS_253 hts hN) (tr_PS_253) (ti_PS_253) (hTh.1.kept (fun a h1 h2 => hS.2.1 a h1 h2)) d_PS_checkHashIndex_10 d_PS_checkHashIndex_13 d_PS_checkHashIndex_14 d_PS_checkHashIndex_17 (Nat.le_of_ble_eq_true rfl) (Nat.le_of_ble_eq_true rfl) (Nat.le_of_ble_eq_true rfl) (Nat.le_of_ble_eq_true rfl) (fun x9 t9 H9 e1 e2 e3 hW9 hex => ⟨Or.inr ⟨x9, "java/lang/IndexOutOfBoundsException", (), rfl, ⟨hc, rfl⟩, hex, (by rw [e1]; exact hP.kept (fun k q hq => e3 q.1 ((hP k q hq).lt))), va_K.moved hW9.alike hK, hD⟩, (by rw [e1]; exact Nat.le_trans hS.1 e2), fun q h1 h2 => by rw [e1]; exact (e3 q (Nat.lt_of_lt_of_le h1 hS.1)).trans (hS.2.1 q h1 h2)⟩) hS.2.2
  · refine lv_iload_n hx hb d_PS_checkHashIndex_4 rfl (lv_at hl 1 rfl) ?_
    refine lv_bipush (v := 32) hx hb d_PS_checkHashIndex_5 (by decide) ?_
    refine lv_icmp_lt (tgt := 18) hx hb d_PS_checkHashIndex_7 (by decide) (fun c_7 => ?_) (fun c_7 => ?_)
    · obtain ⟨n0, hn0, hp0⟩ := nI_of c_1
      have hc : ∃ n : Nat, n < 32 ∧ p0 = nI n := ⟨n0, (nI_ltI (b := 32) hn0 (by decide)).mp (hp0 ▸ c_7), hp0⟩
      refine W.widen (k := 1) (n := 6) (Nat.le_of_ble_eq_true rfl) (Nat.le_of_ble_eq_true rfl) ?_
      exact xc_ret (W.vret hx hb hr (fun t ht hW => ⟨Or.inl ⟨_, (), rfl, ⟨hc, rfl⟩, (by rw [ht]; exact hP), va_K.moved hW.alike hK, hD⟩, hS.F ht⟩) hS.2.2 d_PS_checkHashIndex_18)
    · have hc : ¬ ∃ n : Nat, n < 32 ∧ p0 = nI n := by rintro ⟨n, hn, rfl⟩; exact c_7 (nI_lt (b := 32) hn (by decide))
      refine xc_thrownew (A := A) (own := "PatchStore") (C := "java/lang/IndexOutOfBoundsException") (names := ["java/lang/RuntimeException", "java/lang/Exception"]) (i1 := 253) (i2 := 255) hx hb hml hl.1 hown hlocks hno htr (by decide +kernel) (by decide +kernel) (tw_PS_253 hts hN) (tr_PS_253) (ti_PS_253) (hTh.1.kept (fun a h1 h2 => hS.2.1 a h1 h2)) d_PS_checkHashIndex_10 d_PS_checkHashIndex_13 d_PS_checkHashIndex_14 d_PS_checkHashIndex_17 (Nat.le_of_ble_eq_true rfl) (Nat.le_of_ble_eq_true rfl) (Nat.le_of_ble_eq_true rfl) (Nat.le_of_ble_eq_true rfl) (fun x9 t9 H9 e1 e2 e3 hW9 hex => ⟨Or.inr ⟨x9, "java/lang/IndexOutOfBoundsException", (), rfl, ⟨hc, rfl⟩, hex, (by rw [e1]; exact hP.kept (fun k q hq => e3 q.1 ((hP k q hq).lt))), va_K.moved hW9.alike hK, hD⟩, (by rw [e1]; exact Nat.le_trans hS.1 e2), fun q h1 h2 => by rw [e1]; exact (e3 q (Nat.lt_of_lt_of_le h1 hS.1)).trans (hS.2.1 q h1 h2)⟩) hS.2.2
set_option maxHeartbeats 4000000 in
set_option maxRecDepth 100000 in
/-- repositoryAt -/
theorem m_PS_repositoryAt (l : Launch) (dC : Nat → ClassId) (dI : Nat → Nat → Nat) (cI cB cL cZ cR : ClassId) (hlt : xl_T l) (h rp : Nat) (ps_tape ps_sha ps_stock ps_intake ps_view ps_text ps_maker ps_recording ps_tapeLength ps_lastFault : Value) (g : Nat → Nat) (rf : Nat → Option Nat) (p0 : Int32) (sz : Nat) (hrf : ∀ k, k < 8 → rf k = some (g k)) : xc_Met l y_PS_repositoryAt ws_PS_repositoryAt ({ frames := 8, cells := 1, slots := 6, locals := 200 }) (xw_Px dC dI [(cI, .int), (cB, .byte), (cL, .long), (cZ, .boolean), (cR, .object "PatchStore$Repository")] [.ref h, .int p0] [(h, .inr (0, [ps_tape, .ref rp, ps_sha, ps_stock, ps_intake, ps_view, ps_text, ps_maker, ps_recording, ps_tapeLength, ps_lastFault])), (rp, .inl (cR, 8, .inr (.inr (.inr (.inr rf)))))] sz) (xc_Q (S := Unit) (fun v (_ : Unit) => ∃ n : Nat, n < 8 ∧ p0 = nI n ∧ v = some (.ref (g n))) (fun C (_ : Unit) => (¬ ∃ n : Nat, n < 8 ∧ p0 = nI n) ∧ C = "java/util/NoSuchElementException") (fun _ t => xw_B dC dI [(cI, .int), (cB, .byte), (cL, .long), (cZ, .boolean), (cR, .object "PatchStore$Repository")] (va_A [(h, .inr (0, [ps_tape, .ref rp, ps_sha, ps_stock, ps_intake, ps_view, ps_text, ps_maker, ps_recording, ps_tapeLength, ps_lastFault])), (rp, .inl (cR, 8, .inr (.inr (.inr (.inr rf)))))] sz) [(h, .inr (0, [ps_tape, .ref rp, ps_sha, ps_stock, ps_intake, ps_view, ps_text, ps_maker, ps_recording, ps_tapeLength, ps_lastFault])), (rp, .inl (cR, 8, .inr (.inr (.inr (.inr rf)))))] t) (va_A [(h, .inr (0, [ps_tape, .ref rp, ps_sha, ps_stock, ps_intake, ps_view, ps_text, ps_maker, ps_recording, ps_tapeLength, ps_lastFault])), (rp, .inl (cR, 8, .inr (.inr (.inr (.inr rf)))))] sz)) 1 6 (va_A [(h, .inr (0, [ps_tape, .ref rp, ps_sha, ps_stock, ps_intake, ps_view, ps_text, ps_maker, ps_recording, ps_tapeLength, ps_lastFault])), (rp, .inl (cR, 8, .inr (.inr (.inr (.inr rf)))))] sz) := by
  refine xc_ofW (cc := prog_1_method_22_code) (maxL := 2) (ret := (Option.some (Jvm.ClassFile.FieldType.object "PatchStore$Repository"))) (by decide) rfl ?_
  intro p e s m args below meth c s₁ B hml hno hv
  obtain ⟨rfl, hsz, hP, hK, hD0, hN, hTh⟩ := hv
  have htr : e.platform.stackTraces = false := hlt e B.admits
  have hx := B.exec
  have hb := B.bytes
  have hr := B.returns
  have hts0 := atoms_spec (ws := ws_PS_repositoryAt) B.pre
  have hts : ∀ w ∈ xg_1, w.before _ s = true := fun w h => hts0 w (List.mem_cons_of_mem _ h)
  have hown : s.vm.findClass "PatchStore" = some m.cls := findClass_of_methodNamed B.named
  have hlocks := B.notSynchronized
  subst hsz
  have hD := hD0.self (sz := s.heap.size)
  generalize hAe : va_A [(h, .inr (0, [ps_tape, .ref rp, ps_sha, ps_stock, ps_intake, ps_view, ps_text, ps_maker, ps_recording, ps_tapeLength, ps_lastFault])), (rp, .inl (cR, 8, .inr (.inr (.inr (.inr rf)))))] s.heap.size = A at hD hTh ⊢
  have hA : ∀ q : Nat, s.heap.size ≤ q → A q := fun q h => by rw [← hAe]; exact Or.inr h
  have hS : va_S A s.heap s.heap [] := va_S.rf
  have hl := lv_entry ([.ref h, .int p0]) (n := 2) (Nat.le_of_ble_eq_true rfl)
  rw [lg_entry_eq]
  generalize (lg_sl ([.ref h, .int p0]) ++ List.replicate (2 - (lg_sl ([.ref h, .int p0])).length) Slot.unset).toArray = ls at hl ⊢
  have hl : lv_has ls 2 [(0, .ref h), (1, .int p0)] := hl
  generalize hQe : xc_MQ _ _ _ _ _ _ _ = Q
  refine lv_iload_n hx hb d_PS_repositoryAt_0 rfl (lv_at hl 1 rfl) ?_
  refine lv_if_lt (tgt := 10) hx hb d_PS_repositoryAt_1 (by decide) (fun c_1 => ?_) (fun c_1 => ?_)
  · have hc : ¬ ∃ n : Nat, n < 8 ∧ p0 = nI n := by rintro ⟨n, hn, rfl⟩; exact nI_pos (by omega) c_1
    rw [← hQe]
    refine xc_thrownew (A := A) (own := "PatchStore") (C := "java/util/NoSuchElementException") (names := ["java/lang/RuntimeException", "java/lang/Exception"]) (i1 := 174) (i2 := 176) hx hb hml hl.1 hown hlocks hno htr (by decide +kernel) (by decide +kernel) (tw_PS_174 hts hN) (tr_PS_174) (ti_PS_174) (hTh.1.kept (fun a h1 h2 => hS.2.1 a h1 h2)) d_PS_repositoryAt_10 d_PS_repositoryAt_13 d_PS_repositoryAt_14 d_PS_repositoryAt_17 (Nat.le_of_ble_eq_true rfl) (Nat.le_of_ble_eq_true rfl) (Nat.le_of_ble_eq_true rfl) (Nat.le_of_ble_eq_true rfl) (fun x9 t9 H9 e1 e2 e3 hW9 hex => ⟨Or.inr ⟨x9, "java/util/NoSuchElementException", (), rfl, ⟨hc, rfl⟩, hex, (by rw [e1]; exact hP.kept (fun k q hq => e3 q.1 ((hP k q hq).lt))), va_K.moved hW9.alike hK, hD⟩, (by rw [e1]; exact Nat.le_trans hS.1 e2), fun q h1 h2 => by rw [e1]; exact (e3 q (Nat.lt_of_lt_of_le h1 hS.1)).trans (hS.2.1 q h1 h2)⟩) hS.2.2
  · refine lv_iload_n hx hb d_PS_repositoryAt_4 rfl (lv_at hl 1 rfl) ?_
    refine lv_bipush (v := 8) hx hb d_PS_repositoryAt_5 (by decide) ?_
    refine lv_icmp_lt (tgt := 18) hx hb d_PS_repositoryAt_7 (by decide) (fun c_7 => ?_) (fun c_7 => ?_)
    · obtain ⟨n0, hn0, hp0⟩ := nI_of c_1
      have hc : n0 < 8 := (nI_ltI (b := 8) hn0 (by decide)).mp (hp0 ▸ c_7)
      subst hp0
      refine lv_aload_n hx hb d_PS_repositoryAt_18 rfl (lv_at hl 0 rfl) ?_
      refine va_get (D := (dC, dI)) (ci := 0) (v := .ref rp) (C := R_PS) (T := F_PS) (N := 11) hx hb hts i_PS hown hK hP 0 rfl rfl 1 (by decide) (hts _ gw_549) (fun _ h9 => h9) rfl d_PS_repositoryAt_19 ?_
      refine lv_iload_n hx hb d_PS_repositoryAt_22 rfl (lv_at hl 1 rfl) ?_
      refine va_aldq hx hb hK hP 1 4 rfl rfl (vp_in_nI (by omega) (by omega)) d_PS_repositoryAt_23 ?_
      rw [show (nI n0).toNatClampNeg = n0 from nI_clamp (by omega)]
      rw [hrf n0 hc]
      rw [← hQe]
      refine W.widen (k := 1) (n := 6) (Nat.le_of_ble_eq_true rfl) (Nat.le_of_ble_eq_true rfl) ?_
      exact xc_ret (W.aret (v := .ref (g n0)) hx hb hr (Or.inl ⟨_, rfl⟩) (Or.inr ⟨_, rfl⟩) (fun t ht hW => ⟨Or.inl ⟨_, (), rfl, ⟨n0, hc, rfl, rfl⟩, (by rw [ht]; exact hP), va_K.moved hW.alike hK, hD⟩, hS.F ht⟩) hS.2.2 d_PS_repositoryAt_24)
    · have hc : ¬ ∃ n : Nat, n < 8 ∧ p0 = nI n := by rintro ⟨n, hn, rfl⟩; exact c_7 (nI_lt (b := 8) hn (by decide))
      rw [← hQe]
      refine xc_thrownew (A := A) (own := "PatchStore") (C := "java/util/NoSuchElementException") (names := ["java/lang/RuntimeException", "java/lang/Exception"]) (i1 := 174) (i2 := 176) hx hb hml hl.1 hown hlocks hno htr (by decide +kernel) (by decide +kernel) (tw_PS_174 hts hN) (tr_PS_174) (ti_PS_174) (hTh.1.kept (fun a h1 h2 => hS.2.1 a h1 h2)) d_PS_repositoryAt_10 d_PS_repositoryAt_13 d_PS_repositoryAt_14 d_PS_repositoryAt_17 (Nat.le_of_ble_eq_true rfl) (Nat.le_of_ble_eq_true rfl) (Nat.le_of_ble_eq_true rfl) (Nat.le_of_ble_eq_true rfl) (fun x9 t9 H9 e1 e2 e3 hW9 hex => ⟨Or.inr ⟨x9, "java/util/NoSuchElementException", (), rfl, ⟨hc, rfl⟩, hex, (by rw [e1]; exact hP.kept (fun k q hq => e3 q.1 ((hP k q hq).lt))), va_K.moved hW9.alike hK, hD⟩, (by rw [e1]; exact Nat.le_trans hS.1 e2), fun q h1 h2 => by rw [e1]; exact (e3 q (Nat.lt_of_lt_of_le h1 hS.1)).trans (hS.2.1 q h1 h2)⟩) hS.2.2
end
section
/-! 13.sha1.lean.txt -/
theorem gw_54 : (Jvm.Cond.fieldLink "PatchStore$Sha256" (9 : Nat) "PatchStore$Sha256" "sums" "[I") ∈ xg_1 := xg_s1 54 rfl rfl
theorem gw_55 : (Jvm.Cond.fieldLink "PatchStore$Sha256" (15 : Nat) "PatchStore$Sha256" "words" "[I") ∈ xg_1 := xg_s1 55 rfl rfl
theorem gw_56 : (Jvm.Cond.fieldLink "PatchStore$Sha256" (18 : Nat) "PatchStore$Sha256" "block" "[B") ∈ xg_1 := xg_s1 56 rfl rfl
theorem gw_57 : (Jvm.Cond.fieldLink "PatchStore$Sha256" (25 : Nat) "PatchStore$Sha256" "filled" "I") ∈ xg_1 := xg_s1 57 rfl rfl
theorem gw_58 : (Jvm.Cond.fieldLink "PatchStore$Sha256" (29 : Nat) "PatchStore$Sha256" "taken" "I") ∈ xg_1 := xg_s1 58 rfl rfl
theorem gw_837 : (Jvm.Cond.fieldLink "PatchStore$Sha256" (22 : Nat) "PatchStore$Sha256" "START" "[I") ∈ xg_1 := xg_s4 117 rfl rfl
def y_Sh_begin : MethodName := ⟨"PatchStore$Sha256", "begin", "()V"⟩
abbrev c_Sh_begin : Cond := (Jvm.Cond.code ({ cls := "PatchStore$Sha256", name := "begin", desc := "()V" } : Jvm.MethodName) prog_9_method_2_code (2 : Nat) (Option.none : Option Jvm.ClassFile.FieldType))
abbrev ws_Sh_begin : List Cond := c_Sh_begin :: xg_1
theorem d_Sh_begin_0 : decode prog_9_method_2_code 0 = .ok (.iconst 0, 1) := by decide +kernel
theorem d_Sh_begin_1 : decode prog_9_method_2_code 1 = .ok (.istore_n 1, 1) := by decide +kernel
theorem d_Sh_begin_2 : decode prog_9_method_2_code 2 = .ok (.iload_n 1, 1) := by decide +kernel
theorem d_Sh_begin_3 : decode prog_9_method_2_code 3 = .ok (.bipush 8, 2) := by decide +kernel
theorem d_Sh_begin_5 : decode prog_9_method_2_code 5 = .ok (.if_icmp .ge 20, 3) := by decide +kernel
theorem d_Sh_begin_8 : decode prog_9_method_2_code 8 = .ok (.aload_n 0, 1) := by decide +kernel
theorem d_Sh_begin_9 : decode prog_9_method_2_code 9 = .ok (.getfield 9, 3) := by decide +kernel
theorem d_Sh_begin_12 : decode prog_9_method_2_code 12 = .ok (.iload_n 1, 1) := by decide +kernel
theorem d_Sh_begin_13 : decode prog_9_method_2_code 13 = .ok (.getstatic 22, 3) := by decide +kernel
theorem d_Sh_begin_16 : decode prog_9_method_2_code 16 = .ok (.iload_n 1, 1) := by decide +kernel
theorem d_Sh_begin_17 : decode prog_9_method_2_code 17 = .ok (.iaload, 1) := by decide +kernel
theorem d_Sh_begin_18 : decode prog_9_method_2_code 18 = .ok (.iastore, 1) := by decide +kernel
theorem d_Sh_begin_19 : decode prog_9_method_2_code 19 = .ok (.iinc 1 1, 3) := by decide +kernel
theorem d_Sh_begin_22 : decode prog_9_method_2_code 22 = .ok (.goto (-20), 3) := by decide +kernel
theorem d_Sh_begin_25 : decode prog_9_method_2_code 25 = .ok (.aload_n 0, 1) := by decide +kernel
theorem d_Sh_begin_26 : decode prog_9_method_2_code 26 = .ok (.iconst 0, 1) := by decide +kernel
theorem d_Sh_begin_27 : decode prog_9_method_2_code 27 = .ok (.putfield 25, 3) := by decide +kernel
theorem d_Sh_begin_30 : decode prog_9_method_2_code 30 = .ok (.aload_n 0, 1) := by decide +kernel
theorem d_Sh_begin_31 : decode prog_9_method_2_code 31 = .ok (.iconst 0, 1) := by decide +kernel
theorem d_Sh_begin_32 : decode prog_9_method_2_code 32 = .ok (.putfield 29, 3) := by decide +kernel
theorem d_Sh_begin_35 : decode prog_9_method_2_code 35 = .ok (.return_, 1) := by decide +kernel
def y_Sh_spread : MethodName := ⟨"PatchStore$Sha256", "spread", "()V"⟩
abbrev c_Sh_spread : Cond := (Jvm.Cond.code ({ cls := "PatchStore$Sha256", name := "spread", desc := "()V" } : Jvm.MethodName) prog_9_method_6_code (6 : Nat) (Option.none : Option Jvm.ClassFile.FieldType))
abbrev ws_Sh_spread : List Cond := c_Sh_spread :: xg_1
theorem d_Sh_spread_0 : decode prog_9_method_6_code 0 = .ok (.iconst 0, 1) := by decide +kernel
theorem d_Sh_spread_1 : decode prog_9_method_6_code 1 = .ok (.istore_n 1, 1) := by decide +kernel
theorem d_Sh_spread_2 : decode prog_9_method_6_code 2 = .ok (.iload_n 1, 1) := by decide +kernel
theorem d_Sh_spread_3 : decode prog_9_method_6_code 3 = .ok (.bipush 16, 2) := by decide +kernel
theorem d_Sh_spread_5 : decode prog_9_method_6_code 5 = .ok (.if_icmp .ge 73, 3) := by decide +kernel
theorem d_Sh_spread_8 : decode prog_9_method_6_code 8 = .ok (.iconst 4, 1) := by decide +kernel
theorem d_Sh_spread_9 : decode prog_9_method_6_code 9 = .ok (.iload_n 1, 1) := by decide +kernel
theorem d_Sh_spread_10 : decode prog_9_method_6_code 10 = .ok (.imul, 1) := by decide +kernel
theorem d_Sh_spread_11 : decode prog_9_method_6_code 11 = .ok (.istore_n 2, 1) := by decide +kernel
theorem d_Sh_spread_12 : decode prog_9_method_6_code 12 = .ok (.aload_n 0, 1) := by decide +kernel
theorem d_Sh_spread_13 : decode prog_9_method_6_code 13 = .ok (.getfield 15, 3) := by decide +kernel
theorem d_Sh_spread_16 : decode prog_9_method_6_code 16 = .ok (.iload_n 1, 1) := by decide +kernel
theorem d_Sh_spread_17 : decode prog_9_method_6_code 17 = .ok (.aload_n 0, 1) := by decide +kernel
theorem d_Sh_spread_18 : decode prog_9_method_6_code 18 = .ok (.getfield 18, 3) := by decide +kernel
theorem d_Sh_spread_21 : decode prog_9_method_6_code 21 = .ok (.iload_n 2, 1) := by decide +kernel
theorem d_Sh_spread_22 : decode prog_9_method_6_code 22 = .ok (.baload, 1) := by decide +kernel
theorem d_Sh_spread_23 : decode prog_9_method_6_code 23 = .ok (.bipush 24, 2) := by decide +kernel
theorem d_Sh_spread_25 : decode prog_9_method_6_code 25 = .ok (.ishl, 1) := by decide +kernel
theorem d_Sh_spread_26 : decode prog_9_method_6_code 26 = .ok (.aload_n 0, 1) := by decide +kernel
theorem d_Sh_spread_27 : decode prog_9_method_6_code 27 = .ok (.getfield 18, 3) := by decide +kernel
theorem d_Sh_spread_30 : decode prog_9_method_6_code 30 = .ok (.iload_n 2, 1) := by decide +kernel
theorem d_Sh_spread_31 : decode prog_9_method_6_code 31 = .ok (.iconst 1, 1) := by decide +kernel
theorem d_Sh_spread_32 : decode prog_9_method_6_code 32 = .ok (.iadd, 1) := by decide +kernel
theorem d_Sh_spread_33 : decode prog_9_method_6_code 33 = .ok (.baload, 1) := by decide +kernel
theorem d_Sh_spread_34 : decode prog_9_method_6_code 34 = .ok (.sipush 255, 3) := by decide +kernel
theorem d_Sh_spread_37 : decode prog_9_method_6_code 37 = .ok (.iand, 1) := by decide +kernel
theorem d_Sh_spread_38 : decode prog_9_method_6_code 38 = .ok (.bipush 16, 2) := by decide +kernel
theorem d_Sh_spread_40 : decode prog_9_method_6_code 40 = .ok (.ishl, 1) := by decide +kernel
theorem d_Sh_spread_41 : decode prog_9_method_6_code 41 = .ok (.ior, 1) := by decide +kernel
theorem d_Sh_spread_42 : decode prog_9_method_6_code 42 = .ok (.aload_n 0, 1) := by decide +kernel
theorem d_Sh_spread_43 : decode prog_9_method_6_code 43 = .ok (.getfield 18, 3) := by decide +kernel
theorem d_Sh_spread_46 : decode prog_9_method_6_code 46 = .ok (.iload_n 2, 1) := by decide +kernel
theorem d_Sh_spread_47 : decode prog_9_method_6_code 47 = .ok (.iconst 2, 1) := by decide +kernel
theorem d_Sh_spread_48 : decode prog_9_method_6_code 48 = .ok (.iadd, 1) := by decide +kernel
theorem d_Sh_spread_49 : decode prog_9_method_6_code 49 = .ok (.baload, 1) := by decide +kernel
theorem d_Sh_spread_50 : decode prog_9_method_6_code 50 = .ok (.sipush 255, 3) := by decide +kernel
theorem d_Sh_spread_53 : decode prog_9_method_6_code 53 = .ok (.iand, 1) := by decide +kernel
theorem d_Sh_spread_54 : decode prog_9_method_6_code 54 = .ok (.bipush 8, 2) := by decide +kernel
theorem d_Sh_spread_56 : decode prog_9_method_6_code 56 = .ok (.ishl, 1) := by decide +kernel
theorem d_Sh_spread_57 : decode prog_9_method_6_code 57 = .ok (.ior, 1) := by decide +kernel
theorem d_Sh_spread_58 : decode prog_9_method_6_code 58 = .ok (.aload_n 0, 1) := by decide +kernel
theorem d_Sh_spread_59 : decode prog_9_method_6_code 59 = .ok (.getfield 18, 3) := by decide +kernel
theorem d_Sh_spread_62 : decode prog_9_method_6_code 62 = .ok (.iload_n 2, 1) := by decide +kernel
theorem d_Sh_spread_63 : decode prog_9_method_6_code 63 = .ok (.iconst 3, 1) := by decide +kernel
theorem d_Sh_spread_64 : decode prog_9_method_6_code 64 = .ok (.iadd, 1) := by decide +kernel
theorem d_Sh_spread_65 : decode prog_9_method_6_code 65 = .ok (.baload, 1) := by decide +kernel
theorem d_Sh_spread_66 : decode prog_9_method_6_code 66 = .ok (.sipush 255, 3) := by decide +kernel
theorem d_Sh_spread_69 : decode prog_9_method_6_code 69 = .ok (.iand, 1) := by decide +kernel
theorem d_Sh_spread_70 : decode prog_9_method_6_code 70 = .ok (.ior, 1) := by decide +kernel
theorem d_Sh_spread_71 : decode prog_9_method_6_code 71 = .ok (.iastore, 1) := by decide +kernel
theorem d_Sh_spread_72 : decode prog_9_method_6_code 72 = .ok (.iinc 1 1, 3) := by decide +kernel
theorem d_Sh_spread_75 : decode prog_9_method_6_code 75 = .ok (.goto (-73), 3) := by decide +kernel
theorem d_Sh_spread_78 : decode prog_9_method_6_code 78 = .ok (.bipush 16, 2) := by decide +kernel
theorem d_Sh_spread_80 : decode prog_9_method_6_code 80 = .ok (.istore_n 1, 1) := by decide +kernel
theorem d_Sh_spread_81 : decode prog_9_method_6_code 81 = .ok (.iload_n 1, 1) := by decide +kernel
theorem d_Sh_spread_82 : decode prog_9_method_6_code 82 = .ok (.bipush 64, 2) := by decide +kernel
theorem d_Sh_spread_84 : decode prog_9_method_6_code 84 = .ok (.if_icmp .ge 110, 3) := by decide +kernel
theorem d_Sh_spread_87 : decode prog_9_method_6_code 87 = .ok (.aload_n 0, 1) := by decide +kernel
theorem d_Sh_spread_88 : decode prog_9_method_6_code 88 = .ok (.getfield 15, 3) := by decide +kernel
theorem d_Sh_spread_91 : decode prog_9_method_6_code 91 = .ok (.iload_n 1, 1) := by decide +kernel
theorem d_Sh_spread_92 : decode prog_9_method_6_code 92 = .ok (.bipush 15, 2) := by decide +kernel
theorem d_Sh_spread_94 : decode prog_9_method_6_code 94 = .ok (.isub, 1) := by decide +kernel
theorem d_Sh_spread_95 : decode prog_9_method_6_code 95 = .ok (.iaload, 1) := by decide +kernel
theorem d_Sh_spread_96 : decode prog_9_method_6_code 96 = .ok (.istore_n 2, 1) := by decide +kernel
theorem d_Sh_spread_97 : decode prog_9_method_6_code 97 = .ok (.aload_n 0, 1) := by decide +kernel
theorem d_Sh_spread_98 : decode prog_9_method_6_code 98 = .ok (.getfield 15, 3) := by decide +kernel
theorem d_Sh_spread_101 : decode prog_9_method_6_code 101 = .ok (.iload_n 1, 1) := by decide +kernel
theorem d_Sh_spread_102 : decode prog_9_method_6_code 102 = .ok (.iconst 2, 1) := by decide +kernel
theorem d_Sh_spread_103 : decode prog_9_method_6_code 103 = .ok (.isub, 1) := by decide +kernel
theorem d_Sh_spread_104 : decode prog_9_method_6_code 104 = .ok (.iaload, 1) := by decide +kernel
theorem d_Sh_spread_105 : decode prog_9_method_6_code 105 = .ok (.istore_n 3, 1) := by decide +kernel
theorem d_Sh_spread_106 : decode prog_9_method_6_code 106 = .ok (.iload_n 2, 1) := by decide +kernel
theorem d_Sh_spread_107 : decode prog_9_method_6_code 107 = .ok (.bipush 7, 2) := by decide +kernel
theorem d_Sh_spread_109 : decode prog_9_method_6_code 109 = .ok (.iushr, 1) := by decide +kernel
theorem d_Sh_spread_110 : decode prog_9_method_6_code 110 = .ok (.iload_n 2, 1) := by decide +kernel
theorem d_Sh_spread_111 : decode prog_9_method_6_code 111 = .ok (.bipush 25, 2) := by decide +kernel
theorem d_Sh_spread_113 : decode prog_9_method_6_code 113 = .ok (.ishl, 1) := by decide +kernel
theorem d_Sh_spread_114 : decode prog_9_method_6_code 114 = .ok (.ior, 1) := by decide +kernel
theorem d_Sh_spread_115 : decode prog_9_method_6_code 115 = .ok (.iload_n 2, 1) := by decide +kernel
theorem d_Sh_spread_116 : decode prog_9_method_6_code 116 = .ok (.bipush 18, 2) := by decide +kernel
theorem d_Sh_spread_118 : decode prog_9_method_6_code 118 = .ok (.iushr, 1) := by decide +kernel
theorem d_Sh_spread_119 : decode prog_9_method_6_code 119 = .ok (.iload_n 2, 1) := by decide +kernel
theorem d_Sh_spread_120 : decode prog_9_method_6_code 120 = .ok (.bipush 14, 2) := by decide +kernel
theorem d_Sh_spread_122 : decode prog_9_method_6_code 122 = .ok (.ishl, 1) := by decide +kernel
theorem d_Sh_spread_123 : decode prog_9_method_6_code 123 = .ok (.ior, 1) := by decide +kernel
theorem d_Sh_spread_124 : decode prog_9_method_6_code 124 = .ok (.ixor, 1) := by decide +kernel
theorem d_Sh_spread_125 : decode prog_9_method_6_code 125 = .ok (.iload_n 2, 1) := by decide +kernel
theorem d_Sh_spread_126 : decode prog_9_method_6_code 126 = .ok (.iconst 3, 1) := by decide +kernel
theorem d_Sh_spread_127 : decode prog_9_method_6_code 127 = .ok (.iushr, 1) := by decide +kernel
theorem d_Sh_spread_128 : decode prog_9_method_6_code 128 = .ok (.ixor, 1) := by decide +kernel
theorem d_Sh_spread_129 : decode prog_9_method_6_code 129 = .ok (.istore 4, 2) := by decide +kernel
theorem d_Sh_spread_131 : decode prog_9_method_6_code 131 = .ok (.iload_n 3, 1) := by decide +kernel
theorem d_Sh_spread_132 : decode prog_9_method_6_code 132 = .ok (.bipush 17, 2) := by decide +kernel
theorem d_Sh_spread_134 : decode prog_9_method_6_code 134 = .ok (.iushr, 1) := by decide +kernel
theorem d_Sh_spread_135 : decode prog_9_method_6_code 135 = .ok (.iload_n 3, 1) := by decide +kernel
theorem d_Sh_spread_136 : decode prog_9_method_6_code 136 = .ok (.bipush 15, 2) := by decide +kernel
theorem d_Sh_spread_138 : decode prog_9_method_6_code 138 = .ok (.ishl, 1) := by decide +kernel
theorem d_Sh_spread_139 : decode prog_9_method_6_code 139 = .ok (.ior, 1) := by decide +kernel
theorem d_Sh_spread_140 : decode prog_9_method_6_code 140 = .ok (.iload_n 3, 1) := by decide +kernel
theorem d_Sh_spread_141 : decode prog_9_method_6_code 141 = .ok (.bipush 19, 2) := by decide +kernel
theorem d_Sh_spread_143 : decode prog_9_method_6_code 143 = .ok (.iushr, 1) := by decide +kernel
theorem d_Sh_spread_144 : decode prog_9_method_6_code 144 = .ok (.iload_n 3, 1) := by decide +kernel
theorem d_Sh_spread_145 : decode prog_9_method_6_code 145 = .ok (.bipush 13, 2) := by decide +kernel
theorem d_Sh_spread_147 : decode prog_9_method_6_code 147 = .ok (.ishl, 1) := by decide +kernel
theorem d_Sh_spread_148 : decode prog_9_method_6_code 148 = .ok (.ior, 1) := by decide +kernel
theorem d_Sh_spread_149 : decode prog_9_method_6_code 149 = .ok (.ixor, 1) := by decide +kernel
theorem d_Sh_spread_150 : decode prog_9_method_6_code 150 = .ok (.iload_n 3, 1) := by decide +kernel
theorem d_Sh_spread_151 : decode prog_9_method_6_code 151 = .ok (.bipush 10, 2) := by decide +kernel
theorem d_Sh_spread_153 : decode prog_9_method_6_code 153 = .ok (.iushr, 1) := by decide +kernel
theorem d_Sh_spread_154 : decode prog_9_method_6_code 154 = .ok (.ixor, 1) := by decide +kernel
theorem d_Sh_spread_155 : decode prog_9_method_6_code 155 = .ok (.istore 5, 2) := by decide +kernel
theorem d_Sh_spread_157 : decode prog_9_method_6_code 157 = .ok (.aload_n 0, 1) := by decide +kernel
theorem d_Sh_spread_158 : decode prog_9_method_6_code 158 = .ok (.getfield 15, 3) := by decide +kernel
theorem d_Sh_spread_161 : decode prog_9_method_6_code 161 = .ok (.iload_n 1, 1) := by decide +kernel
theorem d_Sh_spread_162 : decode prog_9_method_6_code 162 = .ok (.aload_n 0, 1) := by decide +kernel
theorem d_Sh_spread_163 : decode prog_9_method_6_code 163 = .ok (.getfield 15, 3) := by decide +kernel
theorem d_Sh_spread_166 : decode prog_9_method_6_code 166 = .ok (.iload_n 1, 1) := by decide +kernel
theorem d_Sh_spread_167 : decode prog_9_method_6_code 167 = .ok (.bipush 16, 2) := by decide +kernel
theorem d_Sh_spread_169 : decode prog_9_method_6_code 169 = .ok (.isub, 1) := by decide +kernel
theorem d_Sh_spread_170 : decode prog_9_method_6_code 170 = .ok (.iaload, 1) := by decide +kernel
theorem d_Sh_spread_171 : decode prog_9_method_6_code 171 = .ok (.iload 4, 2) := by decide +kernel
theorem d_Sh_spread_173 : decode prog_9_method_6_code 173 = .ok (.iadd, 1) := by decide +kernel
theorem d_Sh_spread_174 : decode prog_9_method_6_code 174 = .ok (.aload_n 0, 1) := by decide +kernel
theorem d_Sh_spread_175 : decode prog_9_method_6_code 175 = .ok (.getfield 15, 3) := by decide +kernel
theorem d_Sh_spread_178 : decode prog_9_method_6_code 178 = .ok (.iload_n 1, 1) := by decide +kernel
theorem d_Sh_spread_179 : decode prog_9_method_6_code 179 = .ok (.bipush 7, 2) := by decide +kernel
theorem d_Sh_spread_181 : decode prog_9_method_6_code 181 = .ok (.isub, 1) := by decide +kernel
theorem d_Sh_spread_182 : decode prog_9_method_6_code 182 = .ok (.iaload, 1) := by decide +kernel
theorem d_Sh_spread_183 : decode prog_9_method_6_code 183 = .ok (.iadd, 1) := by decide +kernel
theorem d_Sh_spread_184 : decode prog_9_method_6_code 184 = .ok (.iload 5, 2) := by decide +kernel
theorem d_Sh_spread_186 : decode prog_9_method_6_code 186 = .ok (.iadd, 1) := by decide +kernel
theorem d_Sh_spread_187 : decode prog_9_method_6_code 187 = .ok (.iastore, 1) := by decide +kernel
theorem d_Sh_spread_188 : decode prog_9_method_6_code 188 = .ok (.iinc 1 1, 3) := by decide +kernel
theorem d_Sh_spread_191 : decode prog_9_method_6_code 191 = .ok (.goto (-110), 3) := by decide +kernel
theorem d_Sh_spread_194 : decode prog_9_method_6_code 194 = .ok (.return_, 1) := by decide +kernel
def sh_ur (x k : Int32) : Int32 := (x.toUInt32 >>> (k.toUInt32 &&& Int32.toUInt32 31)).toInt32
def sh_sl (x k : Int32) : Int32 := x <<< (k &&& 31)
def sh_low (x : Int32) : Int32 := ((sh_ur x 7 ||| sh_sl x 25) ^^^ (sh_ur x 18 ||| sh_sl x 14)) ^^^ sh_ur x 3
def sh_high (x : Int32) : Int32 := ((sh_ur x 17 ||| sh_sl x 15) ^^^ (sh_ur x 19 ||| sh_sl x 13)) ^^^ sh_ur x 10
def sh_be (b : Nat → Int32) (t : Nat) : Int32 := ((sh_sl (b (4 * t)) 24 ||| sh_sl (b (4 * t + 1) &&& 255) 16) ||| sh_sl (b (4 * t + 2) &&& 255) 8) ||| (b (4 * t + 3) &&& 255)
def sh_wstep (b g : Nat → Int32) (t : Nat) : Int32 := if t < 16 then sh_be b t else ((g (t - 16) + sh_low (g (t - 15))) + g (t - 7)) + sh_high (g (t - 2))
/-- the schedule's first n words -/
def sh_wf (b : Nat → Int32) : Nat → Nat → Int32
  | 0 => fun _ => 0
  | n + 1 => upd (sh_wf b n) n (sh_wstep b (sh_wf b n) n)
theorem sh_w_step {b f : Nat → Int32} {k : Nat} {v : Int32} (h : ∀ j, j < k → f j = sh_wf b k j) (hv : v = sh_wstep b (sh_wf b k) k) : ∀ j, j < k + 1 → upd f k v j = sh_wf b (k + 1) j := by
  intro j hj
  show _ = upd (sh_wf b k) k (sh_wstep b (sh_wf b k) k) j
  by_cases e : j = k
  · subst e; rw [pk_us, pk_us, hv]
  · rw [pk_un e, pk_un e]; exact h j (by omega)
theorem sh_w_hi {b f : Nat → Int32} {k : Nat} (hk : 16 ≤ k) (h : ∀ j, j < k → f j = sh_wf b k j) : ((f (k - 16) + sh_low (f (k - 15))) + f (k - 7)) + sh_high (f (k - 2)) = sh_wstep b (sh_wf b k) k := by
  unfold sh_wstep
  rw [if_neg (by omega), h _ (by omega), h _ (by omega), h _ (by omega), h _ (by omega)]
set_option maxHeartbeats 4000000 in
set_option maxRecDepth 100000 in
/-- Sha256.begin -/
theorem m_Sh_begin (l : Launch) (dC : Nat → ClassId) (dI : Nat → Nat → Nat) (cI cB cL cZ cR : ClassId) (h sm : Nat) (sh_words sh_block sh_filled sh_taken : Value) (f0 : Nat → Int32) (sz : Nat) : Met l y_Sh_begin ws_Sh_begin ({ frames := 0, cells := 0, slots := 0, locals := 0 }) (xw_Px dC dI [(cI, .int), (cB, .byte), (cL, .long), (cZ, .boolean), (cR, .object "PatchStore$Repository")] [.ref h] [(h, .inr (8, [.ref sm, sh_words, sh_block, sh_filled, sh_taken])), (sm, .inl (cI, 8, .inl f0))] sz) (va_Qv (fun u : Nat → Int32 => ∀ j, j < 8 → u j = sh_START j) (fun u t => xw_B dC dI [(cI, .int), (cB, .byte), (cL, .long), (cZ, .boolean), (cR, .object "PatchStore$Repository")] (va_A [(h, .inr (8, [.ref sm, sh_words, sh_block, sh_filled, sh_taken])), (sm, .inl (cI, 8, .inl f0))] sz) [(h, .inr (8, [.ref sm, sh_words, sh_block, .int 0, .int 0])), (sm, .inl (cI, 8, .inl u))] t) (va_A [(h, .inr (8, [.ref sm, sh_words, sh_block, sh_filled, sh_taken])), (sm, .inl (cI, 8, .inl f0))] sz)) 0 0 (va_A [(h, .inr (8, [.ref sm, sh_words, sh_block, sh_filled, sh_taken])), (sm, .inl (cI, 8, .inl f0))] sz) := by
  refine Met.ofW (cc := prog_9_method_2_code) (maxL := 2) (ret := none) (by decide) rfl ?_
  intro p e s m args below meth c s₁ B hml hv
  obtain ⟨rfl, hsz, hP, hK, hD0, hN, hTh⟩ := hv
  have hx := B.exec
  have hb := B.bytes
  have hr := B.returns
  have hts0 := atoms_spec (ws := ws_Sh_begin) B.pre
  have hts : ∀ w ∈ xg_1, w.before _ s = true := fun w h => hts0 w (List.mem_cons_of_mem _ h)
  have hown : s.vm.findClass "PatchStore$Sha256" = some m.cls := findClass_of_methodNamed B.named
  have hlocks := B.notSynchronized
  subst hsz
  have hD := hD0.self (sz := s.heap.size)
  generalize hAe : va_A [(h, .inr (8, [.ref sm, sh_words, sh_block, sh_filled, sh_taken])), (sm, .inl (cI, 8, .inl f0))] s.heap.size = A at hD hTh ⊢
  obtain ⟨t_START, hZ_START, hT_START⟩ := hTh.2.1
  obtain ⟨t_ROUND, hZ_ROUND, hT_ROUND⟩ := hTh.2.2.1
  obtain ⟨t_FIRST, hZ_FIRST, hT_FIRST⟩ := hTh.2.2.2.1
  obtain ⟨t_ROOTS, hZ_ROOTS, hT_ROOTS⟩ := hTh.2.2.2.2.1
  have hA : ∀ q : Nat, s.heap.size ≤ q → A q := fun q h => by rw [← hAe]; exact Or.inr h
  have hS : va_S A s.heap s.heap [] := va_S.rf
  have hl := lv_entry ([.ref h]) (n := 2) (Nat.le_of_ble_eq_true rfl)
  rw [lg_entry_eq]
  generalize (lg_sl ([.ref h]) ++ List.replicate (2 - (lg_sl ([.ref h])).length) Slot.unset).toArray = ls at hl ⊢
  have hl : lv_has ls 2 [(0, .ref h)] := hl
  generalize hQe : MQ _ _ _ _ _ _ _ = Q
  refine lv_iconst (v := 0) hx hb d_Sh_begin_0 (by decide) ?_
  refine lv_istore_n (lv' := [(1, .int 0), (0, .ref h)]) hx hb d_Sh_begin_1 rfl hl (by decide) rfl (fun ls hl => ?_)
  have loop_2 : ∀ (n : Nat) (k : Nat) (f : Nat → Int32) (H : Heap) (locs : List Loc) (ls : Array Slot), 8 - k < n → (k ≤ 8) → (∀ j, j < k → f j = sh_START j) → va_P (dC, dI) classes [(h, .inr (8, [.ref sm, sh_words, sh_block, sh_filled, sh_taken])), (sm, .inl (cI, 8, .inl f))] H → va_D A [(h, .inr (8, [.ref sm, sh_words, sh_block, sh_filled, sh_taken])), (sm, .inl (cI, 8, .inl f))] → va_S A s.heap H locs → lv_has ls 2 [(0, .ref h), (1, .int (nI k))] → W p l e (headSpec ws_Sh_begin ({ frames := 0, cells := 0, slots := 0, locals := 0 })).room s m ([.ref h] : List Value).toArray below meth c H locs 0 0 Q (F0 m 2 ls []) := by
    intro n
    induction n with
    | zero => intro k f H locs ls hm; exact absurd hm (Nat.not_lt_zero _)
    | succ n ih_2 =>
      intro k f H locs ls hm hk hf hP hD hS hl
      refine lv_iload_n hx hb d_Sh_begin_2 rfl (lv_at hl 1 rfl) ?_
      refine lv_bipush (v := 8) hx hb d_Sh_begin_3 (by decide) ?_
      refine lv_icmp_ge (tgt := 25) hx hb d_Sh_begin_5 (by decide) (fun c_5 => ?_) (fun c_5 => ?_)
      · have hk8 : k = 8 := by have := (nI_leI (a := 8) (b := k) (by omega) (by omega)).mp c_5; omega
        subst hk8
        refine lv_aload_n hx hb d_Sh_begin_25 rfl (lv_at hl 0 rfl) ?_
        refine lv_iconst (v := 0) hx hb d_Sh_begin_26 (by decide) ?_
        refine va_put (D := (dC, dI)) (ci := 8) (v := .int 0) (ty := .int) (C := R_Sh) (T := F_Sh) (N := 5) hx hb hts i_Sh t_Sh t_Sh_ok n_Sh hown hK hP hD hS 0 rfl rfl 3 (by decide) (hts _ gw_57) (fun _ h9 => h9) rfl (by decide +kernel) rfl rfl (Nat.le_of_ble_eq_true rfl) d_Sh_begin_27 (fun H locs hP hD hS => ?_)
        have hP : va_P (dC, dI) classes [(h, .inr (8, [.ref sm, sh_words, sh_block, .int 0, sh_taken])), (sm, .inl (cI, 8, .inl f))] H := hP
        have hD : va_D A [(h, .inr (8, [.ref sm, sh_words, sh_block, .int 0, sh_taken])), (sm, .inl (cI, 8, .inl f))] := hD
        refine lv_aload_n hx hb d_Sh_begin_30 rfl (lv_at hl 0 rfl) ?_
        refine lv_iconst (v := 0) hx hb d_Sh_begin_31 (by decide) ?_
        refine va_put (D := (dC, dI)) (ci := 8) (v := .int 0) (ty := .int) (C := R_Sh) (T := F_Sh) (N := 5) hx hb hts i_Sh t_Sh t_Sh_ok n_Sh hown hK hP hD hS 0 rfl rfl 4 (by decide) (hts _ gw_58) (fun _ h9 => h9) rfl (by decide +kernel) rfl rfl (Nat.le_of_ble_eq_true rfl) d_Sh_begin_32 (fun H locs hP hD hS => ?_)
        have hP : va_P (dC, dI) classes [(h, .inr (8, [.ref sm, sh_words, sh_block, .int 0, .int 0])), (sm, .inl (cI, 8, .inl f))] H := hP
        have hD : va_D A [(h, .inr (8, [.ref sm, sh_words, sh_block, .int 0, .int 0])), (sm, .inl (cI, 8, .inl f))] := hD
        rw [← hQe]
        exact W.vret hx hb hr (fun t ht hW => ⟨⟨f, rfl, hf, by rw [ht]; exact hP, va_K.moved hW.alike hK, hD⟩, hS.F ht⟩) hS.2.2 d_Sh_begin_35
      · have hk8 : k < 8 := by rcases Nat.lt_or_ge k 8 with z | z; exact z; exact absurd (nI_le (a := 8) z (by omega)) c_5
        refine lv_aload_n hx hb d_Sh_begin_8 rfl (lv_at hl 0 rfl) ?_
        refine va_get (D := (dC, dI)) (ci := 8) (v := .ref sm) (C := R_Sh) (T := F_Sh) (N := 5) hx hb hts i_Sh hown hK hP 0 rfl rfl 0 (by decide) (hts _ gw_54) (fun _ h9 => h9) rfl d_Sh_begin_9 ?_
        refine lv_iload_n hx hb d_Sh_begin_12 rfl (lv_at hl 1 rfl) ?_
        refine va_gets hx hb hZ_START hS hown (hts _ gw_837) (fun _ h9 => h9) d_Sh_begin_13 ?_
        refine lv_iload_n hx hb d_Sh_begin_16 rfl (lv_at hl 1 rfl) ?_
        refine va_ti (v := .int (sh_START k)) hx hb hT_START hS (vp_in_nI (by omega) (by omega)) (by rw [show (nI k).toNatClampNeg = k from nI_clamp (by omega)]) d_Sh_begin_17 ?_
        refine va_iast hx hb hK hP hD hS 1 0 rfl rfl (vp_in_nI (by omega) (by omega)) d_Sh_begin_18 (fun H locs hP hD hS => ?_)
        rw [show (nI k).toNatClampNeg = k from nI_clamp (by omega)] at hP hD
        have hP : va_P (dC, dI) classes [(h, .inr (8, [.ref sm, sh_words, sh_block, sh_filled, sh_taken])), (sm, .inl (cI, 8, .inl (upd f k (sh_START k))))] H := hP
        have hD : va_D A [(h, .inr (8, [.ref sm, sh_words, sh_block, sh_filled, sh_taken])), (sm, .inl (cI, 8, .inl (upd f k (sh_START k))))] := hD
        refine lv_iinc (v := nI (k + 1)) (lv' := [(1, .int (nI (k + 1))), (0, .ref h)]) hx hb d_Sh_begin_19 hl (k := 1) rfl (by exact nI_1 k) (by decide) rfl (fun ls hl => ?_)
        refine lv_goto (tgt := 2) hx hb d_Sh_begin_22 (by decide) ?_
        exact ih_2 (k + 1) (upd f k (sh_START k)) _ _ _ (by omega) (by omega) (lt_s (fun a ha => by rw [pk_un (by omega)]; exact hf a ha) (by rw [pk_us])) hP hD hS (lv_sub hl [1, 0] rfl)
  exact loop_2 _ 0 f0 _ _ _ (Nat.lt_succ_self _) (Nat.zero_le _) (fun j hj => absurd hj (Nat.not_lt_zero j)) hP hD hS (lv_sub hl [1, 0] rfl)
set_option maxHeartbeats 4000000 in
set_option maxRecDepth 100000 in
/-- Sha256.spread -/
theorem m_Sh_spread (l : Launch) (dC : Nat → ClassId) (dI : Nat → Nat → Nat) (cI cB cL cZ cR : ClassId) (h wd bl : Nat) (sh_sums sh_filled sh_taken : Value) (f0 b : Nat → Int32) (sz : Nat) : Met l y_Sh_spread ws_Sh_spread ({ frames := 0, cells := 0, slots := 0, locals := 0 }) (xw_Pc dC dI [(cI, .int), (cB, .byte), (cL, .long), (cZ, .boolean), (cR, .object "PatchStore$Repository")] [.ref h] [(h, .inr (8, [sh_sums, .ref wd, .ref bl, sh_filled, sh_taken])), (wd, .inl (cI, 64, .inl f0)), (bl, .inl (cB, 64, .inl b))] sz) (va_Qv (fun u : Nat → Int32 => ∀ j, j < 64 → u j = sh_wf b 64 j) (fun u t => xw_B dC dI [(cI, .int), (cB, .byte), (cL, .long), (cZ, .boolean), (cR, .object "PatchStore$Repository")] (va_A [(h, .inr (8, [sh_sums, .ref wd, .ref bl, sh_filled, sh_taken])), (wd, .inl (cI, 64, .inl f0)), (bl, .inl (cB, 64, .inl b))] sz) [(h, .inr (8, [sh_sums, .ref wd, .ref bl, sh_filled, sh_taken])), (wd, .inl (cI, 64, .inl u)), (bl, .inl (cB, 64, .inl b))] t) (va_A [(h, .inr (8, [sh_sums, .ref wd, .ref bl, sh_filled, sh_taken])), (wd, .inl (cI, 64, .inl f0)), (bl, .inl (cB, 64, .inl b))] sz)) 0 0 (va_A [(h, .inr (8, [sh_sums, .ref wd, .ref bl, sh_filled, sh_taken])), (wd, .inl (cI, 64, .inl f0)), (bl, .inl (cB, 64, .inl b))] sz) := by
  refine Met.ofW (cc := prog_9_method_6_code) (maxL := 6) (ret := none) (by decide) rfl ?_
  intro p e s m args below meth c s₁ B hml hv
  obtain ⟨rfl, hsz, hP, hK, hD0⟩ := hv
  have hx := B.exec
  have hb := B.bytes
  have hr := B.returns
  have hts0 := atoms_spec (ws := ws_Sh_spread) B.pre
  have hts : ∀ w ∈ xg_1, w.before _ s = true := fun w h => hts0 w (List.mem_cons_of_mem _ h)
  have hown : s.vm.findClass "PatchStore$Sha256" = some m.cls := findClass_of_methodNamed B.named
  have hlocks := B.notSynchronized
  subst hsz
  have hD := hD0.self (sz := s.heap.size)
  generalize hAe : va_A [(h, .inr (8, [sh_sums, .ref wd, .ref bl, sh_filled, sh_taken])), (wd, .inl (cI, 64, .inl f0)), (bl, .inl (cB, 64, .inl b))] s.heap.size = A at hD ⊢
  have hA : ∀ q : Nat, s.heap.size ≤ q → A q := fun q h => by rw [← hAe]; exact Or.inr h
  have hS : va_S A s.heap s.heap [] := va_S.rf
  have hl := lv_entry ([.ref h]) (n := 6) (Nat.le_of_ble_eq_true rfl)
  rw [lg_entry_eq]
  generalize (lg_sl ([.ref h]) ++ List.replicate (6 - (lg_sl ([.ref h])).length) Slot.unset).toArray = ls at hl ⊢
  have hl : lv_has ls 6 [(0, .ref h)] := hl
  generalize hQe : MQ _ _ _ _ _ _ _ = Q
  refine lv_iconst (v := 0) hx hb d_Sh_spread_0 (by decide) ?_
  refine lv_istore_n (lv' := [(1, .int 0), (0, .ref h)]) hx hb d_Sh_spread_1 rfl hl (by decide) rfl (fun ls hl => ?_)
  have loop_2 : ∀ (n : Nat) (k : Nat) (f : Nat → Int32) (H : Heap) (locs : List Loc) (ls : Array Slot), 16 - k < n → (k ≤ 16) → (∀ j, j < k → f j = sh_wf b k j) → va_P (dC, dI) classes [(h, .inr (8, [sh_sums, .ref wd, .ref bl, sh_filled, sh_taken])), (wd, .inl (cI, 64, .inl f)), (bl, .inl (cB, 64, .inl b))] H → va_D A [(h, .inr (8, [sh_sums, .ref wd, .ref bl, sh_filled, sh_taken])), (wd, .inl (cI, 64, .inl f)), (bl, .inl (cB, 64, .inl b))] → va_S A s.heap H locs → lv_has ls 6 [(0, .ref h), (1, .int (nI k))] → W p l e (headSpec ws_Sh_spread ({ frames := 0, cells := 0, slots := 0, locals := 0 })).room s m ([.ref h] : List Value).toArray below meth c H locs 0 0 Q (F0 m 2 ls []) := by
    intro n
    induction n with
    | zero => intro k f H locs ls hm; exact absurd hm (Nat.not_lt_zero _)
    | succ n ih_2 =>
      intro k f H locs ls hm hk hf hP hD hS hl
      refine lv_iload_n hx hb d_Sh_spread_2 rfl (lv_at hl 1 rfl) ?_
      refine lv_bipush (v := 16) hx hb d_Sh_spread_3 (by decide) ?_
      refine lv_icmp_ge (tgt := 78) hx hb d_Sh_spread_5 (by decide) (fun c_5 => ?_) (fun c_5 => ?_)
      · have hk6 : k = 16 := by have := (nI_leI (a := 16) (b := k) (by omega) (by omega)).mp c_5; omega
        subst hk6
        refine lv_bipush (v := 16) hx hb d_Sh_spread_78 (by decide) ?_
        refine lv_istore_n (lv' := [(1, .int 16), (0, .ref h)]) hx hb d_Sh_spread_80 rfl hl (by decide) rfl (fun ls hl => ?_)
        have loop_81 : ∀ (n : Nat) (k : Nat) (f : Nat → Int32) (H : Heap) (locs : List Loc) (ls : Array Slot), 64 - k < n → (16 ≤ k ∧ k ≤ 64) → (∀ j, j < k → f j = sh_wf b k j) → va_P (dC, dI) classes [(h, .inr (8, [sh_sums, .ref wd, .ref bl, sh_filled, sh_taken])), (wd, .inl (cI, 64, .inl f)), (bl, .inl (cB, 64, .inl b))] H → va_D A [(h, .inr (8, [sh_sums, .ref wd, .ref bl, sh_filled, sh_taken])), (wd, .inl (cI, 64, .inl f)), (bl, .inl (cB, 64, .inl b))] → va_S A s.heap H locs → lv_has ls 6 [(0, .ref h), (1, .int (nI k))] → W p l e (headSpec ws_Sh_spread ({ frames := 0, cells := 0, slots := 0, locals := 0 })).room s m ([.ref h] : List Value).toArray below meth c H locs 0 0 Q (F0 m 81 ls []) := by
          intro n
          induction n with
          | zero => intro k f H locs ls hm; exact absurd hm (Nat.not_lt_zero _)
          | succ n ih_81 =>
            intro k f H locs ls hm hk hf hP hD hS hl
            refine lv_iload_n hx hb d_Sh_spread_81 rfl (lv_at hl 1 rfl) ?_
            refine lv_bipush (v := 64) hx hb d_Sh_spread_82 (by decide) ?_
            refine lv_icmp_ge (tgt := 194) hx hb d_Sh_spread_84 (by decide) (fun c_84 => ?_) (fun c_84 => ?_)
            · have hk9 : k = 64 := by have := (nI_leI (a := 64) (b := k) (by omega) (by omega)).mp c_84; omega
              subst hk9
              rw [← hQe]
              exact W.vret hx hb hr (fun t ht hW => ⟨⟨f, rfl, hf, by rw [ht]; exact hP, va_K.moved hW.alike hK, hD⟩, hS.F ht⟩) hS.2.2 d_Sh_spread_194
            · have hk9 : k < 64 := by rcases Nat.lt_or_ge k 64 with z | z; exact z; exact absurd (nI_le (a := 64) z (by omega)) c_84
              refine lv_aload_n hx hb d_Sh_spread_87 rfl (lv_at hl 0 rfl) ?_
              refine va_get (D := (dC, dI)) (ci := 8) (v := .ref wd) (C := R_Sh) (T := F_Sh) (N := 5) hx hb hts i_Sh hown hK hP 0 rfl rfl 1 (by decide) (hts _ gw_55) (fun _ h9 => h9) rfl d_Sh_spread_88 ?_
              refine lv_iload_n hx hb d_Sh_spread_91 rfl (lv_at hl 1 rfl) ?_
              refine lv_bipush (v := 15) hx hb d_Sh_spread_92 (by decide) ?_
              refine lv_isub hx hb d_Sh_spread_94 ?_
              refine lv_topi (fun x_1 ex_1 => ?_)
              obtain rfl : x_1 = nI (k - 15) := by rw [ex_1]; first | done | (exact pk_sub (b := 15) (by omega))
              refine va_iald hx hb hK hP 1 0 rfl rfl (vp_in_nI (by omega) (by omega)) d_Sh_spread_95 ?_
              rw [show (nI (k - 15)).toNatClampNeg = (k - 15) from nI_clamp (by omega)]
              refine lv_istore_n (lv' := [(2, .int (f (k - 15))), (0, .ref h), (1, .int (nI k))]) hx hb d_Sh_spread_96 rfl hl (by decide) rfl (fun ls hl => ?_)
              refine lv_aload_n hx hb d_Sh_spread_97 rfl (lv_at hl 1 rfl) ?_
              refine va_get (D := (dC, dI)) (ci := 8) (v := .ref wd) (C := R_Sh) (T := F_Sh) (N := 5) hx hb hts i_Sh hown hK hP 0 rfl rfl 1 (by decide) (hts _ gw_55) (fun _ h9 => h9) rfl d_Sh_spread_98 ?_
              refine lv_iload_n hx hb d_Sh_spread_101 rfl (lv_at hl 2 rfl) ?_
              refine lv_iconst (v := 2) hx hb d_Sh_spread_102 (by decide) ?_
              refine lv_isub hx hb d_Sh_spread_103 ?_
              refine lv_topi (fun x_2 ex_2 => ?_)
              obtain rfl : x_2 = nI (k - 2) := by rw [ex_2]; first | done | (exact pk_sub (b := 2) (by omega))
              refine va_iald hx hb hK hP 1 0 rfl rfl (vp_in_nI (by omega) (by omega)) d_Sh_spread_104 ?_
              rw [show (nI (k - 2)).toNatClampNeg = (k - 2) from nI_clamp (by omega)]
              refine lv_istore_n (lv' := [(3, .int (f (k - 2))), (2, .int (f (k - 15))), (0, .ref h), (1, .int (nI k))]) hx hb d_Sh_spread_105 rfl hl (by decide) rfl (fun ls hl => ?_)
              refine lv_iload_n hx hb d_Sh_spread_106 rfl (lv_at hl 1 rfl) ?_
              refine lv_bipush (v := 7) hx hb d_Sh_spread_107 (by decide) ?_
              refine lv_iushr hx hb d_Sh_spread_109 rfl ?_
              refine lv_iload_n hx hb d_Sh_spread_110 rfl (lv_at hl 1 rfl) ?_
              refine lv_bipush (v := 25) hx hb d_Sh_spread_111 (by decide) ?_
              refine lv_ishl hx hb d_Sh_spread_113 ?_
              refine lv_ior hx hb d_Sh_spread_114 ?_
              refine lv_iload_n hx hb d_Sh_spread_115 rfl (lv_at hl 1 rfl) ?_
              refine lv_bipush (v := 18) hx hb d_Sh_spread_116 (by decide) ?_
              refine lv_iushr hx hb d_Sh_spread_118 rfl ?_
              refine lv_iload_n hx hb d_Sh_spread_119 rfl (lv_at hl 1 rfl) ?_
              refine lv_bipush (v := 14) hx hb d_Sh_spread_120 (by decide) ?_
              refine lv_ishl hx hb d_Sh_spread_122 ?_
              refine lv_ior hx hb d_Sh_spread_123 ?_
              refine lv_ixor hx hb d_Sh_spread_124 ?_
              refine lv_iload_n hx hb d_Sh_spread_125 rfl (lv_at hl 1 rfl) ?_
              refine lv_iconst (v := 3) hx hb d_Sh_spread_126 (by decide) ?_
              refine lv_iushr hx hb d_Sh_spread_127 rfl ?_
              refine lv_ixor hx hb d_Sh_spread_128 ?_
              refine lv_topi (fun x_3 ex_3 => ?_)
              obtain rfl : x_3 = sh_low (f (k - 15)) := by rw [ex_3]; first | done | (rfl)
              refine lv_istore (lv' := [(4, .int (sh_low (f (k - 15)))), (3, .int (f (k - 2))), (2, .int (f (k - 15))), (0, .ref h), (1, .int (nI k))]) hx hb d_Sh_spread_129 hl (by decide) rfl (fun ls hl => ?_)
              refine lv_iload_n hx hb d_Sh_spread_131 rfl (lv_at hl 1 rfl) ?_
              refine lv_bipush (v := 17) hx hb d_Sh_spread_132 (by decide) ?_
              refine lv_iushr hx hb d_Sh_spread_134 rfl ?_
              refine lv_iload_n hx hb d_Sh_spread_135 rfl (lv_at hl 1 rfl) ?_
              refine lv_bipush (v := 15) hx hb d_Sh_spread_136 (by decide) ?_
              refine lv_ishl hx hb d_Sh_spread_138 ?_
              refine lv_ior hx hb d_Sh_spread_139 ?_
              refine lv_iload_n hx hb d_Sh_spread_140 rfl (lv_at hl 1 rfl) ?_
              refine lv_bipush (v := 19) hx hb d_Sh_spread_141 (by decide) ?_
              refine lv_iushr hx hb d_Sh_spread_143 rfl ?_
              refine lv_iload_n hx hb d_Sh_spread_144 rfl (lv_at hl 1 rfl) ?_
              refine lv_bipush (v := 13) hx hb d_Sh_spread_145 (by decide) ?_
              refine lv_ishl hx hb d_Sh_spread_147 ?_
              refine lv_ior hx hb d_Sh_spread_148 ?_
              refine lv_ixor hx hb d_Sh_spread_149 ?_
              refine lv_iload_n hx hb d_Sh_spread_150 rfl (lv_at hl 1 rfl) ?_
              refine lv_bipush (v := 10) hx hb d_Sh_spread_151 (by decide) ?_
              refine lv_iushr hx hb d_Sh_spread_153 rfl ?_
              refine lv_ixor hx hb d_Sh_spread_154 ?_
              refine lv_topi (fun x_4 ex_4 => ?_)
              obtain rfl : x_4 = sh_high (f (k - 2)) := by rw [ex_4]; first | done | (rfl)
              refine lv_istore (lv' := [(5, .int (sh_high (f (k - 2)))), (4, .int (sh_low (f (k - 15)))), (3, .int (f (k - 2))), (2, .int (f (k - 15))), (0, .ref h), (1, .int (nI k))]) hx hb d_Sh_spread_155 hl (by decide) rfl (fun ls hl => ?_)
              refine lv_aload_n hx hb d_Sh_spread_157 rfl (lv_at hl 4 rfl) ?_
              refine va_get (D := (dC, dI)) (ci := 8) (v := .ref wd) (C := R_Sh) (T := F_Sh) (N := 5) hx hb hts i_Sh hown hK hP 0 rfl rfl 1 (by decide) (hts _ gw_55) (fun _ h9 => h9) rfl d_Sh_spread_158 ?_
              refine lv_iload_n hx hb d_Sh_spread_161 rfl (lv_at hl 5 rfl) ?_
              refine lv_aload_n hx hb d_Sh_spread_162 rfl (lv_at hl 4 rfl) ?_
              refine va_get (D := (dC, dI)) (ci := 8) (v := .ref wd) (C := R_Sh) (T := F_Sh) (N := 5) hx hb hts i_Sh hown hK hP 0 rfl rfl 1 (by decide) (hts _ gw_55) (fun _ h9 => h9) rfl d_Sh_spread_163 ?_
              refine lv_iload_n hx hb d_Sh_spread_166 rfl (lv_at hl 5 rfl) ?_
              refine lv_bipush (v := 16) hx hb d_Sh_spread_167 (by decide) ?_
              refine lv_isub hx hb d_Sh_spread_169 ?_
              refine lv_topi (fun x_5 ex_5 => ?_)
              obtain rfl : x_5 = nI (k - 16) := by rw [ex_5]; first | done | (exact pk_sub (b := 16) (by omega))
              refine va_iald hx hb hK hP 1 0 rfl rfl (vp_in_nI (by omega) (by omega)) d_Sh_spread_170 ?_
              rw [show (nI (k - 16)).toNatClampNeg = (k - 16) from nI_clamp (by omega)]
              refine lv_iload hx hb d_Sh_spread_171 (lv_at hl 1 rfl) ?_
              refine lv_iadd hx hb d_Sh_spread_173 ?_
              refine lv_aload_n hx hb d_Sh_spread_174 rfl (lv_at hl 4 rfl) ?_
              refine va_get (D := (dC, dI)) (ci := 8) (v := .ref wd) (C := R_Sh) (T := F_Sh) (N := 5) hx hb hts i_Sh hown hK hP 0 rfl rfl 1 (by decide) (hts _ gw_55) (fun _ h9 => h9) rfl d_Sh_spread_175 ?_
              refine lv_iload_n hx hb d_Sh_spread_178 rfl (lv_at hl 5 rfl) ?_
              refine lv_bipush (v := 7) hx hb d_Sh_spread_179 (by decide) ?_
              refine lv_isub hx hb d_Sh_spread_181 ?_
              refine lv_topi (fun x_6 ex_6 => ?_)
              obtain rfl : x_6 = nI (k - 7) := by rw [ex_6]; first | done | (exact pk_sub (b := 7) (by omega))
              refine va_iald hx hb hK hP 1 0 rfl rfl (vp_in_nI (by omega) (by omega)) d_Sh_spread_182 ?_
              rw [show (nI (k - 7)).toNatClampNeg = (k - 7) from nI_clamp (by omega)]
              refine lv_iadd hx hb d_Sh_spread_183 ?_
              refine lv_iload hx hb d_Sh_spread_184 (lv_at hl 0 rfl) ?_
              refine lv_iadd hx hb d_Sh_spread_186 ?_
              refine lv_topi (fun x_7 ex_7 => ?_)
              obtain rfl : x_7 = ((f (k - 16) + sh_low (f (k - 15))) + f (k - 7)) + sh_high (f (k - 2)) := by rw [ex_7]; first | done | (rfl)
              refine va_iast hx hb hK hP hD hS 1 0 rfl rfl (vp_in_nI (by omega) (by omega)) d_Sh_spread_187 (fun H locs hP hD hS => ?_)
              rw [show (nI k).toNatClampNeg = k from nI_clamp (by omega)] at hP hD
              have hP : va_P (dC, dI) classes [(h, .inr (8, [sh_sums, .ref wd, .ref bl, sh_filled, sh_taken])), (wd, .inl (cI, 64, .inl (upd f k (((f (k - 16) + sh_low (f (k - 15))) + f (k - 7)) + sh_high (f (k - 2)))))), (bl, .inl (cB, 64, .inl b))] H := hP
              have hD : va_D A [(h, .inr (8, [sh_sums, .ref wd, .ref bl, sh_filled, sh_taken])), (wd, .inl (cI, 64, .inl (upd f k (((f (k - 16) + sh_low (f (k - 15))) + f (k - 7)) + sh_high (f (k - 2)))))), (bl, .inl (cB, 64, .inl b))] := hD
              refine lv_iinc (v := nI (k + 1)) (lv' := [(1, .int (nI (k + 1))), (5, .int (sh_high (f (k - 2)))), (4, .int (sh_low (f (k - 15)))), (3, .int (f (k - 2))), (2, .int (f (k - 15))), (0, .ref h)]) hx hb d_Sh_spread_188 hl (k := 5) rfl (by exact nI_1 k) (by decide) rfl (fun ls hl => ?_)
              refine lv_goto (tgt := 81) hx hb d_Sh_spread_191 (by decide) ?_
              exact ih_81 (k + 1) (upd f k (((f (k - 16) + sh_low (f (k - 15))) + f (k - 7)) + sh_high (f (k - 2)))) _ _ _ (by omega) (by omega) (sh_w_step hf (sh_w_hi hk.1 hf)) hP hD hS (lv_sub hl [5, 0] rfl)
        exact loop_81 _ 16 f _ _ _ (Nat.lt_succ_self _) (⟨Nat.le_refl _, by omega⟩) (hf) hP hD hS (lv_sub hl [1, 0] rfl)
      · have hk6 : k < 16 := by rcases Nat.lt_or_ge k 16 with z | z; exact z; exact absurd (nI_le (a := 16) z (by omega)) c_5
        refine lv_iconst (v := 4) hx hb d_Sh_spread_8 (by decide) ?_
        refine lv_iload_n hx hb d_Sh_spread_9 rfl (lv_at hl 1 rfl) ?_
        refine lv_imul hx hb d_Sh_spread_10 ?_
        refine lv_topi (fun x_8 ex_8 => ?_)
        obtain rfl : x_8 = nI (4 * k) := by rw [ex_8]; first | done | (exact pk_mul 4 k)
        refine lv_istore_n (lv' := [(2, .int (nI (4 * k))), (0, .ref h), (1, .int (nI k))]) hx hb d_Sh_spread_11 rfl hl (by decide) rfl (fun ls hl => ?_)
        refine lv_aload_n hx hb d_Sh_spread_12 rfl (lv_at hl 1 rfl) ?_
        refine va_get (D := (dC, dI)) (ci := 8) (v := .ref wd) (C := R_Sh) (T := F_Sh) (N := 5) hx hb hts i_Sh hown hK hP 0 rfl rfl 1 (by decide) (hts _ gw_55) (fun _ h9 => h9) rfl d_Sh_spread_13 ?_
        refine lv_iload_n hx hb d_Sh_spread_16 rfl (lv_at hl 2 rfl) ?_
        refine lv_aload_n hx hb d_Sh_spread_17 rfl (lv_at hl 1 rfl) ?_
        refine va_get (D := (dC, dI)) (ci := 8) (v := .ref bl) (C := R_Sh) (T := F_Sh) (N := 5) hx hb hts i_Sh hown hK hP 0 rfl rfl 2 (by decide) (hts _ gw_56) (fun _ h9 => h9) rfl d_Sh_spread_18 ?_
        refine lv_iload_n hx hb d_Sh_spread_21 rfl (lv_at hl 0 rfl) ?_
        refine va_bald hx hb hK hP 2 1 rfl rfl (vp_in_nI (by omega) (by omega)) d_Sh_spread_22 ?_
        rw [show (nI (4 * k)).toNatClampNeg = (4 * k) from nI_clamp (by omega)]
        refine lv_bipush (v := 24) hx hb d_Sh_spread_23 (by decide) ?_
        refine lv_ishl hx hb d_Sh_spread_25 ?_
        refine lv_aload_n hx hb d_Sh_spread_26 rfl (lv_at hl 1 rfl) ?_
        refine va_get (D := (dC, dI)) (ci := 8) (v := .ref bl) (C := R_Sh) (T := F_Sh) (N := 5) hx hb hts i_Sh hown hK hP 0 rfl rfl 2 (by decide) (hts _ gw_56) (fun _ h9 => h9) rfl d_Sh_spread_27 ?_
        refine lv_iload_n hx hb d_Sh_spread_30 rfl (lv_at hl 0 rfl) ?_
        refine lv_iconst (v := 1) hx hb d_Sh_spread_31 (by decide) ?_
        refine lv_iadd hx hb d_Sh_spread_32 ?_
        refine lv_topi (fun x_9 ex_9 => ?_)
        obtain rfl : x_9 = nI (4 * k + 1) := by rw [ex_9]; first | done | (exact nI_add (4 * k) 1)
        refine va_bald hx hb hK hP 2 1 rfl rfl (vp_in_nI (by omega) (by omega)) d_Sh_spread_33 ?_
        rw [show (nI (4 * k + 1)).toNatClampNeg = (4 * k + 1) from nI_clamp (by omega)]
        refine lv_sipush (v := 255) hx hb d_Sh_spread_34 (by decide) ?_
        refine lv_iand hx hb d_Sh_spread_37 ?_
        refine lv_bipush (v := 16) hx hb d_Sh_spread_38 (by decide) ?_
        refine lv_ishl hx hb d_Sh_spread_40 ?_
        refine lv_ior hx hb d_Sh_spread_41 ?_
        refine lv_aload_n hx hb d_Sh_spread_42 rfl (lv_at hl 1 rfl) ?_
        refine va_get (D := (dC, dI)) (ci := 8) (v := .ref bl) (C := R_Sh) (T := F_Sh) (N := 5) hx hb hts i_Sh hown hK hP 0 rfl rfl 2 (by decide) (hts _ gw_56) (fun _ h9 => h9) rfl d_Sh_spread_43 ?_
        refine lv_iload_n hx hb d_Sh_spread_46 rfl (lv_at hl 0 rfl) ?_
        refine lv_iconst (v := 2) hx hb d_Sh_spread_47 (by decide) ?_
        refine lv_iadd hx hb d_Sh_spread_48 ?_
        refine lv_topi (fun x_10 ex_10 => ?_)
        obtain rfl : x_10 = nI (4 * k + 2) := by rw [ex_10]; first | done | (exact nI_add (4 * k) 2)
        refine va_bald hx hb hK hP 2 1 rfl rfl (vp_in_nI (by omega) (by omega)) d_Sh_spread_49 ?_
        rw [show (nI (4 * k + 2)).toNatClampNeg = (4 * k + 2) from nI_clamp (by omega)]
        refine lv_sipush (v := 255) hx hb d_Sh_spread_50 (by decide) ?_
        refine lv_iand hx hb d_Sh_spread_53 ?_
        refine lv_bipush (v := 8) hx hb d_Sh_spread_54 (by decide) ?_
        refine lv_ishl hx hb d_Sh_spread_56 ?_
        refine lv_ior hx hb d_Sh_spread_57 ?_
        refine lv_aload_n hx hb d_Sh_spread_58 rfl (lv_at hl 1 rfl) ?_
        refine va_get (D := (dC, dI)) (ci := 8) (v := .ref bl) (C := R_Sh) (T := F_Sh) (N := 5) hx hb hts i_Sh hown hK hP 0 rfl rfl 2 (by decide) (hts _ gw_56) (fun _ h9 => h9) rfl d_Sh_spread_59 ?_
        refine lv_iload_n hx hb d_Sh_spread_62 rfl (lv_at hl 0 rfl) ?_
        refine lv_iconst (v := 3) hx hb d_Sh_spread_63 (by decide) ?_
        refine lv_iadd hx hb d_Sh_spread_64 ?_
        refine lv_topi (fun x_11 ex_11 => ?_)
        obtain rfl : x_11 = nI (4 * k + 3) := by rw [ex_11]; first | done | (exact nI_add (4 * k) 3)
        refine va_bald hx hb hK hP 2 1 rfl rfl (vp_in_nI (by omega) (by omega)) d_Sh_spread_65 ?_
        rw [show (nI (4 * k + 3)).toNatClampNeg = (4 * k + 3) from nI_clamp (by omega)]
        refine lv_sipush (v := 255) hx hb d_Sh_spread_66 (by decide) ?_
        refine lv_iand hx hb d_Sh_spread_69 ?_
        refine lv_ior hx hb d_Sh_spread_70 ?_
        refine lv_topi (fun x_12 ex_12 => ?_)
        obtain rfl : x_12 = sh_be b k := by rw [ex_12]; first | done | (rfl)
        refine va_iast hx hb hK hP hD hS 1 0 rfl rfl (vp_in_nI (by omega) (by omega)) d_Sh_spread_71 (fun H locs hP hD hS => ?_)
        rw [show (nI k).toNatClampNeg = k from nI_clamp (by omega)] at hP hD
        have hP : va_P (dC, dI) classes [(h, .inr (8, [sh_sums, .ref wd, .ref bl, sh_filled, sh_taken])), (wd, .inl (cI, 64, .inl (upd f k (sh_be b k)))), (bl, .inl (cB, 64, .inl b))] H := hP
        have hD : va_D A [(h, .inr (8, [sh_sums, .ref wd, .ref bl, sh_filled, sh_taken])), (wd, .inl (cI, 64, .inl (upd f k (sh_be b k)))), (bl, .inl (cB, 64, .inl b))] := hD
        refine lv_iinc (v := nI (k + 1)) (lv' := [(1, .int (nI (k + 1))), (2, .int (nI (4 * k))), (0, .ref h)]) hx hb d_Sh_spread_72 hl (k := 2) rfl (by exact nI_1 k) (by decide) rfl (fun ls hl => ?_)
        refine lv_goto (tgt := 2) hx hb d_Sh_spread_75 (by decide) ?_
        exact ih_2 (k + 1) (upd f k (sh_be b k)) _ _ _ (by omega) (by omega) (sh_w_step hf (by unfold sh_wstep; rw [if_pos hk6])) hP hD hS (lv_sub hl [2, 0] rfl)
  exact loop_2 _ 0 f0 _ _ _ (Nat.lt_succ_self _) (Nat.zero_le _) (fun j hj => absurd hj (Nat.not_lt_zero j)) hP hD hS (lv_sub hl [1, 0] rfl)
end
