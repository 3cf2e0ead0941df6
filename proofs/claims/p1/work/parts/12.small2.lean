/-! 12.small2.lean.txt -/
theorem gw_113 : (Jvm.Cond.fieldLink "PatchStore" (279 : Nat) "PatchStore$Changes" "files" "I") ∈ xg_1 := xg_s1 113 rfl rfl
theorem gw_164 : (Jvm.Cond.fieldLink "PatchStore" (276 : Nat) "PatchStore$Lines" "total" "I") ∈ xg_1 := xg_s1 164 rfl rfl
theorem gw_193 : (Jvm.Cond.fieldLink "PatchStore" (151 : Nat) "PatchStore$Stock" "from" "[I") ∈ xg_1 := xg_s1 193 rfl rfl
theorem gw_228 : (Jvm.Cond.fieldLink "PatchStore" (224 : Nat) "PatchStore$Stock" "changes" "LPatchStore$Changes;") ∈ xg_1 := xg_s1 228 rfl rfl
theorem gw_234 : (Jvm.Cond.fieldLink "PatchStore" (259 : Nat) "PatchStore$Stock" "lines" "LPatchStore$Lines;") ∈ xg_1 := xg_s1 234 rfl rfl
theorem gw_242 : (Jvm.Cond.fieldLink "PatchStore" (273 : Nat) "PatchStore$Stock" "patches" "I") ∈ xg_1 := xg_s2 2 rfl rfl
theorem gw_549 : (Jvm.Cond.fieldLink "PatchStore" (16 : Nat) "PatchStore" "repositories" "[LPatchStore$Repository;") ∈ xg_1 := xg_s3 69 rfl rfl
theorem gw_551 : (Jvm.Cond.fieldLink "PatchStore" (30 : Nat) "PatchStore" "stock" "LPatchStore$Stock;") ∈ xg_1 := xg_s3 71 rfl rfl
def y_PS_count : MethodName := ⟨"PatchStore", "count", "(I)I"⟩
abbrev c_PS_count : Cond := (Jvm.Cond.code ({ cls := "PatchStore", name := "count", desc := "(I)I" } : Jvm.MethodName) prog_1_method_19_code (2 : Nat) (Option.some Jvm.ClassFile.FieldType.int))
abbrev ws_PS_count : List Cond := c_PS_count :: xg_1
theorem d_PS_count_0 : decode prog_1_method_19_code 0 = .ok (.iload_n 1, 1) := by decide +kernel
theorem d_PS_count_1 : decode prog_1_method_19_code 1 = .ok (.tableswitch 86 0 4 #[35, 40, 48, 59, 70], 35) := by decide +kernel
theorem d_PS_count_36 : decode prog_1_method_19_code 36 = .ok (.aload_n 0, 1) := by decide +kernel
theorem d_PS_count_37 : decode prog_1_method_19_code 37 = .ok (.getfield 76, 3) := by decide +kernel
theorem d_PS_count_40 : decode prog_1_method_19_code 40 = .ok (.ireturn, 1) := by decide +kernel
theorem d_PS_count_41 : decode prog_1_method_19_code 41 = .ok (.aload_n 0, 1) := by decide +kernel
theorem d_PS_count_42 : decode prog_1_method_19_code 42 = .ok (.getfield 30, 3) := by decide +kernel
theorem d_PS_count_45 : decode prog_1_method_19_code 45 = .ok (.getfield 273, 3) := by decide +kernel
theorem d_PS_count_48 : decode prog_1_method_19_code 48 = .ok (.ireturn, 1) := by decide +kernel
theorem d_PS_count_49 : decode prog_1_method_19_code 49 = .ok (.aload_n 0, 1) := by decide +kernel
theorem d_PS_count_50 : decode prog_1_method_19_code 50 = .ok (.getfield 30, 3) := by decide +kernel
theorem d_PS_count_53 : decode prog_1_method_19_code 53 = .ok (.getfield 259, 3) := by decide +kernel
theorem d_PS_count_56 : decode prog_1_method_19_code 56 = .ok (.getfield 276, 3) := by decide +kernel
theorem d_PS_count_59 : decode prog_1_method_19_code 59 = .ok (.ireturn, 1) := by decide +kernel
theorem d_PS_count_60 : decode prog_1_method_19_code 60 = .ok (.aload_n 0, 1) := by decide +kernel
theorem d_PS_count_61 : decode prog_1_method_19_code 61 = .ok (.getfield 30, 3) := by decide +kernel
theorem d_PS_count_64 : decode prog_1_method_19_code 64 = .ok (.getfield 224, 3) := by decide +kernel
theorem d_PS_count_67 : decode prog_1_method_19_code 67 = .ok (.getfield 279, 3) := by decide +kernel
theorem d_PS_count_70 : decode prog_1_method_19_code 70 = .ok (.ireturn, 1) := by decide +kernel
theorem d_PS_count_71 : decode prog_1_method_19_code 71 = .ok (.aload_n 0, 1) := by decide +kernel
theorem d_PS_count_72 : decode prog_1_method_19_code 72 = .ok (.getfield 30, 3) := by decide +kernel
theorem d_PS_count_75 : decode prog_1_method_19_code 75 = .ok (.getfield 151, 3) := by decide +kernel
theorem d_PS_count_78 : decode prog_1_method_19_code 78 = .ok (.aload_n 0, 1) := by decide +kernel
theorem d_PS_count_79 : decode prog_1_method_19_code 79 = .ok (.getfield 30, 3) := by decide +kernel
theorem d_PS_count_82 : decode prog_1_method_19_code 82 = .ok (.getfield 273, 3) := by decide +kernel
theorem d_PS_count_85 : decode prog_1_method_19_code 85 = .ok (.iaload, 1) := by decide +kernel
theorem d_PS_count_86 : decode prog_1_method_19_code 86 = .ok (.ireturn, 1) := by decide +kernel
theorem d_PS_count_87 : decode prog_1_method_19_code 87 = .ok (.iconst (-1), 1) := by decide +kernel
theorem d_PS_count_88 : decode prog_1_method_19_code 88 = .ok (.ireturn, 1) := by decide +kernel
def y_PS_checkPatch : MethodName := ⟨"PatchStore", "checkPatch", "(I)V"⟩
abbrev c_PS_checkPatch : Cond := (Jvm.Cond.code ({ cls := "PatchStore", name := "checkPatch", desc := "(I)V" } : Jvm.MethodName) prog_1_method_24_code (2 : Nat) (Option.none : Option Jvm.ClassFile.FieldType))
abbrev ws_PS_checkPatch : List Cond := c_PS_checkPatch :: xg_1
theorem d_PS_checkPatch_0 : decode prog_1_method_24_code 0 = .ok (.iload_n 1, 1) := by decide +kernel
theorem d_PS_checkPatch_1 : decode prog_1_method_24_code 1 = .ok (.ifCond .lt 14, 3) := by decide +kernel
theorem d_PS_checkPatch_4 : decode prog_1_method_24_code 4 = .ok (.iload_n 1, 1) := by decide +kernel
theorem d_PS_checkPatch_5 : decode prog_1_method_24_code 5 = .ok (.aload_n 0, 1) := by decide +kernel
theorem d_PS_checkPatch_6 : decode prog_1_method_24_code 6 = .ok (.getfield 30, 3) := by decide +kernel
theorem d_PS_checkPatch_9 : decode prog_1_method_24_code 9 = .ok (.getfield 273, 3) := by decide +kernel
theorem d_PS_checkPatch_12 : decode prog_1_method_24_code 12 = .ok (.if_icmp .lt 11, 3) := by decide +kernel
theorem d_PS_checkPatch_15 : decode prog_1_method_24_code 15 = .ok (.new 174, 3) := by decide +kernel
theorem d_PS_checkPatch_18 : decode prog_1_method_24_code 18 = .ok (.dup, 1) := by decide +kernel
theorem d_PS_checkPatch_19 : decode prog_1_method_24_code 19 = .ok (.invokespecial 176, 3) := by decide +kernel
theorem d_PS_checkPatch_22 : decode prog_1_method_24_code 22 = .ok (.athrow, 1) := by decide +kernel
theorem d_PS_checkPatch_23 : decode prog_1_method_24_code 23 = .ok (.return_, 1) := by decide +kernel
def y_PS_checkHashIndex : MethodName := ⟨"PatchStore", "checkHashIndex", "(I)V"⟩
abbrev c_PS_checkHashIndex : Cond := (Jvm.Cond.code ({ cls := "PatchStore", name := "checkHashIndex", desc := "(I)V" } : Jvm.MethodName) prog_1_method_25_code (2 : Nat) (Option.none : Option Jvm.ClassFile.FieldType))
abbrev ws_PS_checkHashIndex : List Cond := c_PS_checkHashIndex :: xg_1
theorem d_PS_checkHashIndex_0 : decode prog_1_method_25_code 0 = .ok (.iload_n 1, 1) := by decide +kernel
theorem d_PS_checkHashIndex_1 : decode prog_1_method_25_code 1 = .ok (.ifCond .lt 9, 3) := by decide +kernel
theorem d_PS_checkHashIndex_4 : decode prog_1_method_25_code 4 = .ok (.iload_n 1, 1) := by decide +kernel
theorem d_PS_checkHashIndex_5 : decode prog_1_method_25_code 5 = .ok (.bipush 32, 2) := by decide +kernel
theorem d_PS_checkHashIndex_7 : decode prog_1_method_25_code 7 = .ok (.if_icmp .lt 11, 3) := by decide +kernel
theorem d_PS_checkHashIndex_10 : decode prog_1_method_25_code 10 = .ok (.new 253, 3) := by decide +kernel
theorem d_PS_checkHashIndex_13 : decode prog_1_method_25_code 13 = .ok (.dup, 1) := by decide +kernel
theorem d_PS_checkHashIndex_14 : decode prog_1_method_25_code 14 = .ok (.invokespecial 255, 3) := by decide +kernel
theorem d_PS_checkHashIndex_17 : decode prog_1_method_25_code 17 = .ok (.athrow, 1) := by decide +kernel
theorem d_PS_checkHashIndex_18 : decode prog_1_method_25_code 18 = .ok (.return_, 1) := by decide +kernel
def y_PS_repositoryAt : MethodName := ⟨"PatchStore", "repositoryAt", "(I)LPatchStore$Repository;"⟩
abbrev c_PS_repositoryAt : Cond := (Jvm.Cond.code ({ cls := "PatchStore", name := "repositoryAt", desc := "(I)LPatchStore$Repository;" } : Jvm.MethodName) prog_1_method_22_code (2 : Nat) (Option.some (Jvm.ClassFile.FieldType.object "PatchStore$Repository")))
abbrev ws_PS_repositoryAt : List Cond := c_PS_repositoryAt :: xg_1
theorem d_PS_repositoryAt_0 : decode prog_1_method_22_code 0 = .ok (.iload_n 1, 1) := by decide +kernel
theorem d_PS_repositoryAt_1 : decode prog_1_method_22_code 1 = .ok (.ifCond .lt 9, 3) := by decide +kernel
theorem d_PS_repositoryAt_4 : decode prog_1_method_22_code 4 = .ok (.iload_n 1, 1) := by decide +kernel
theorem d_PS_repositoryAt_5 : decode prog_1_method_22_code 5 = .ok (.bipush 8, 2) := by decide +kernel
theorem d_PS_repositoryAt_7 : decode prog_1_method_22_code 7 = .ok (.if_icmp .lt 11, 3) := by decide +kernel
theorem d_PS_repositoryAt_10 : decode prog_1_method_22_code 10 = .ok (.new 174, 3) := by decide +kernel
theorem d_PS_repositoryAt_13 : decode prog_1_method_22_code 13 = .ok (.dup, 1) := by decide +kernel
theorem d_PS_repositoryAt_14 : decode prog_1_method_22_code 14 = .ok (.invokespecial 176, 3) := by decide +kernel
theorem d_PS_repositoryAt_17 : decode prog_1_method_22_code 17 = .ok (.athrow, 1) := by decide +kernel
theorem d_PS_repositoryAt_18 : decode prog_1_method_22_code 18 = .ok (.aload_n 0, 1) := by decide +kernel
theorem d_PS_repositoryAt_19 : decode prog_1_method_22_code 19 = .ok (.getfield 16, 3) := by decide +kernel
theorem d_PS_repositoryAt_22 : decode prog_1_method_22_code 22 = .ok (.iload_n 1, 1) := by decide +kernel
theorem d_PS_repositoryAt_23 : decode prog_1_method_22_code 23 = .ok (.aaload, 1) := by decide +kernel
theorem d_PS_repositoryAt_24 : decode prog_1_method_22_code 24 = .ok (.areturn, 1) := by decide +kernel
def ps_count (x : Int32) (L P F T : Nat) (f : Nat → Int32) : Int32 := if x = 0 then nI L else if x = 1 then nI P else if x = 2 then nI T else if x = 3 then nI F else if x = 4 then f P else -1
theorem ps_count_out {x : Int32} {L P F T : Nat} {f : Nat → Int32} (h : x < 0 ∨ nI 5 ≤ x) : -1 = ps_count x L P F T f := by
  have h0 : ∀ k : Nat, k < 5 → ¬ x = nI k := by
    intro k hk e
    subst e
    rcases h with h | h
    · exact nI_pos (by omega) h
    · exact nI_ge hk (by decide) h
  have a0 : ¬ x = 0 := h0 0 (by decide)
  have a1 : ¬ x = 1 := h0 1 (by decide)
  have a2 : ¬ x = 2 := h0 2 (by decide)
  have a3 : ¬ x = 3 := h0 3 (by decide)
  have a4 : ¬ x = 4 := h0 4 (by decide)
  simp [ps_count, a0, a1, a2, a3, a4]
set_option maxHeartbeats 4000000 in
set_option maxRecDepth 100000 in
/-- count -/
theorem m_PS_count (l : Launch) (dC : Nat → ClassId) (dI : Nat → Nat → Nat) (cI cB cL cZ cR : ClassId) (h sk ch ln fr : Nat) (ps_tape ps_repositories ps_sha ps_intake ps_view ps_text ps_maker ps_recording ps_lastFault sk_bytes sk_firstDependency sk_firstChange sk_dependencies sk_hashes sk_byHash sk_leansOn sk_leantBy ch_at ch_patch ch_file ch_firstLine ch_adds ln_at ln_length ln_change ln_place ln_up ln_down ln_ofFile : Value) (L P F T : Nat) (f : Nat → Int32) (p0 : Int32) (sz : Nat) (hP9 : P < 502) : Met l y_PS_count ws_PS_count ({ frames := 0, cells := 0, slots := 0, locals := 0 }) (xw_Pc dC dI [(cI, .int), (cB, .byte), (cL, .long), (cZ, .boolean), (cR, .object "PatchStore$Repository")] [.ref h, .int p0] [(h, .inr (0, [ps_tape, ps_repositories, ps_sha, .ref sk, ps_intake, ps_view, ps_text, ps_maker, ps_recording, .int (nI L), ps_lastFault])), (sk, .inr (9, [sk_bytes, .ref fr, sk_firstDependency, sk_firstChange, sk_dependencies, sk_hashes, sk_byHash, sk_leansOn, sk_leantBy, .ref ch, .ref ln, .int (nI P)])), (ch, .inr (1, [ch_at, ch_patch, ch_file, ch_firstLine, ch_adds, .int (nI F)])), (ln, .inr (4, [ln_at, ln_length, ln_change, ln_place, ln_up, ln_down, ln_ofFile, .int (nI T)])), (fr, .inl (cI, 502, .inl f))] sz) (va_Qi (fun (r : Int32) (_ : Unit) => r = ps_count p0 L P F T f) (fun _ t => xw_B dC dI [(cI, .int), (cB, .byte), (cL, .long), (cZ, .boolean), (cR, .object "PatchStore$Repository")] (va_A [(h, .inr (0, [ps_tape, ps_repositories, ps_sha, .ref sk, ps_intake, ps_view, ps_text, ps_maker, ps_recording, .int (nI L), ps_lastFault])), (sk, .inr (9, [sk_bytes, .ref fr, sk_firstDependency, sk_firstChange, sk_dependencies, sk_hashes, sk_byHash, sk_leansOn, sk_leantBy, .ref ch, .ref ln, .int (nI P)])), (ch, .inr (1, [ch_at, ch_patch, ch_file, ch_firstLine, ch_adds, .int (nI F)])), (ln, .inr (4, [ln_at, ln_length, ln_change, ln_place, ln_up, ln_down, ln_ofFile, .int (nI T)])), (fr, .inl (cI, 502, .inl f))] sz) [(h, .inr (0, [ps_tape, ps_repositories, ps_sha, .ref sk, ps_intake, ps_view, ps_text, ps_maker, ps_recording, .int (nI L), ps_lastFault])), (sk, .inr (9, [sk_bytes, .ref fr, sk_firstDependency, sk_firstChange, sk_dependencies, sk_hashes, sk_byHash, sk_leansOn, sk_leantBy, .ref ch, .ref ln, .int (nI P)])), (ch, .inr (1, [ch_at, ch_patch, ch_file, ch_firstLine, ch_adds, .int (nI F)])), (ln, .inr (4, [ln_at, ln_length, ln_change, ln_place, ln_up, ln_down, ln_ofFile, .int (nI T)])), (fr, .inl (cI, 502, .inl f))] t) (va_A [(h, .inr (0, [ps_tape, ps_repositories, ps_sha, .ref sk, ps_intake, ps_view, ps_text, ps_maker, ps_recording, .int (nI L), ps_lastFault])), (sk, .inr (9, [sk_bytes, .ref fr, sk_firstDependency, sk_firstChange, sk_dependencies, sk_hashes, sk_byHash, sk_leansOn, sk_leantBy, .ref ch, .ref ln, .int (nI P)])), (ch, .inr (1, [ch_at, ch_patch, ch_file, ch_firstLine, ch_adds, .int (nI F)])), (ln, .inr (4, [ln_at, ln_length, ln_change, ln_place, ln_up, ln_down, ln_ofFile, .int (nI T)])), (fr, .inl (cI, 502, .inl f))] sz)) 0 0 (va_A [(h, .inr (0, [ps_tape, ps_repositories, ps_sha, .ref sk, ps_intake, ps_view, ps_text, ps_maker, ps_recording, .int (nI L), ps_lastFault])), (sk, .inr (9, [sk_bytes, .ref fr, sk_firstDependency, sk_firstChange, sk_dependencies, sk_hashes, sk_byHash, sk_leansOn, sk_leantBy, .ref ch, .ref ln, .int (nI P)])), (ch, .inr (1, [ch_at, ch_patch, ch_file, ch_firstLine, ch_adds, .int (nI F)])), (ln, .inr (4, [ln_at, ln_length, ln_change, ln_place, ln_up, ln_down, ln_ofFile, .int (nI T)])), (fr, .inl (cI, 502, .inl f))] sz) := by
  refine Met.ofW (cc := prog_1_method_19_code) (maxL := 2) (ret := (Option.some Jvm.ClassFile.FieldType.int)) (by decide) rfl ?_
  intro p e s m args below meth c s₁ B hml hv
  obtain ⟨rfl, hsz, hP, hK, hD0⟩ := hv
  have hx := B.exec
  have hb := B.bytes
  have hr := B.returns
  have hts0 := atoms_spec (ws := ws_PS_count) B.pre
  have hts : ∀ w ∈ xg_1, w.before _ s = true := fun w h => hts0 w (List.mem_cons_of_mem _ h)
  have hown : s.vm.findClass "PatchStore" = some m.cls := findClass_of_methodNamed B.named
  have hlocks := B.notSynchronized
  subst hsz
  have hD := hD0.self (sz := s.heap.size)
  generalize hAe : va_A [(h, .inr (0, [ps_tape, ps_repositories, ps_sha, .ref sk, ps_intake, ps_view, ps_text, ps_maker, ps_recording, .int (nI L), ps_lastFault])), (sk, .inr (9, [sk_bytes, .ref fr, sk_firstDependency, sk_firstChange, sk_dependencies, sk_hashes, sk_byHash, sk_leansOn, sk_leantBy, .ref ch, .ref ln, .int (nI P)])), (ch, .inr (1, [ch_at, ch_patch, ch_file, ch_firstLine, ch_adds, .int (nI F)])), (ln, .inr (4, [ln_at, ln_length, ln_change, ln_place, ln_up, ln_down, ln_ofFile, .int (nI T)])), (fr, .inl (cI, 502, .inl f))] s.heap.size = A at hD ⊢
  have hA : ∀ q : Nat, s.heap.size ≤ q → A q := fun q h => by rw [← hAe]; exact Or.inr h
  have hS : va_S A s.heap s.heap [] := va_S.rf
  have hl := lv_entry ([.ref h, .int p0]) (n := 2) (Nat.le_of_ble_eq_true rfl)
  rw [lg_entry_eq]
  generalize (lg_sl ([.ref h, .int p0]) ++ List.replicate (2 - (lg_sl ([.ref h, .int p0])).length) Slot.unset).toArray = ls at hl ⊢
  have hl : lv_has ls 2 [(0, .ref h), (1, .int p0)] := hl
  refine lv_iload_n hx hb d_PS_count_0 rfl (lv_at hl 1 rfl) ?_
  rcases pk_ix p0 (n := 5) (by decide) with hs | hs | ⟨j_1, hj, rfl⟩
  · refine lv_tableOut (tgt := 87) hx hb d_PS_count_1 (Or.inl (by have := Int32.lt_iff_toInt_lt.mp hs; simpa using this)) (by decide) ?_
    refine lv_iconst (v := (-1)) hx hb d_PS_count_87 (by decide) ?_
    exact W.iret (v := -1) hx hb hr (fun t ht hW => ⟨⟨_, (), rfl, ps_count_out (Or.inl hs), by rw [ht]; exact hP, va_K.moved hW.alike hK, hD⟩, hS.F ht⟩) hS.2.2 d_PS_count_88
  · refine lv_tableOut (tgt := 87) hx hb d_PS_count_1 (Or.inr (by have h9 := Int32.le_iff_toInt_le.mp hs; rw [nI_toInt (by decide)] at h9; omega)) (by decide) ?_
    refine lv_iconst (v := (-1)) hx hb d_PS_count_87 (by decide) ?_
    exact W.iret (v := -1) hx hb hr (fun t ht hW => ⟨⟨_, (), rfl, ps_count_out (Or.inr hs), by rw [ht]; exact hP, va_K.moved hW.alike hK, hD⟩, hS.F ht⟩) hS.2.2 d_PS_count_88
  · rcases (show j_1 = 0 ∨ j_1 = 1 ∨ j_1 = 2 ∨ j_1 = 3 ∨ j_1 = 4 by omega) with rfl | rfl | rfl | rfl | rfl
    · refine lv_tableIn (tgt := 36) (off := 35) hx hb d_PS_count_1 (by decide) (by decide) (by decide) (by decide) ?_
      refine lv_aload_n hx hb d_PS_count_36 rfl (lv_at hl 0 rfl) ?_
      refine va_get (D := (dC, dI)) (ci := 0) (v := .int (nI L)) (C := R_PS) (T := F_PS) (N := 11) hx hb hts i_PS hown hK hP 0 rfl rfl 9 (by decide) (hts _ gw_557) (fun _ h9 => h9) rfl d_PS_count_37 ?_
      exact W.iret (v := nI L) hx hb hr (fun t ht hW => ⟨⟨_, (), rfl, rfl, by rw [ht]; exact hP, va_K.moved hW.alike hK, hD⟩, hS.F ht⟩) hS.2.2 d_PS_count_40
    · refine lv_tableIn (tgt := 41) (off := 40) hx hb d_PS_count_1 (by decide) (by decide) (by decide) (by decide) ?_
      refine lv_aload_n hx hb d_PS_count_41 rfl (lv_at hl 0 rfl) ?_
      refine va_get (D := (dC, dI)) (ci := 0) (v := .ref sk) (C := R_PS) (T := F_PS) (N := 11) hx hb hts i_PS hown hK hP 0 rfl rfl 3 (by decide) (hts _ gw_551) (fun _ h9 => h9) rfl d_PS_count_42 ?_
      refine va_get (D := (dC, dI)) (ci := 9) (v := .int (nI P)) (C := R_St) (T := F_St) (N := 12) hx hb hts i_St hown hK hP 1 rfl rfl 11 (by decide) (hts _ gw_242) (fun _ h9 => h9) rfl d_PS_count_45 ?_
      exact W.iret (v := nI P) hx hb hr (fun t ht hW => ⟨⟨_, (), rfl, rfl, by rw [ht]; exact hP, va_K.moved hW.alike hK, hD⟩, hS.F ht⟩) hS.2.2 d_PS_count_48
    · refine lv_tableIn (tgt := 49) (off := 48) hx hb d_PS_count_1 (by decide) (by decide) (by decide) (by decide) ?_
      refine lv_aload_n hx hb d_PS_count_49 rfl (lv_at hl 0 rfl) ?_
      refine va_get (D := (dC, dI)) (ci := 0) (v := .ref sk) (C := R_PS) (T := F_PS) (N := 11) hx hb hts i_PS hown hK hP 0 rfl rfl 3 (by decide) (hts _ gw_551) (fun _ h9 => h9) rfl d_PS_count_50 ?_
      refine va_get (D := (dC, dI)) (ci := 9) (v := .ref ln) (C := R_St) (T := F_St) (N := 12) hx hb hts i_St hown hK hP 1 rfl rfl 10 (by decide) (hts _ gw_234) (fun _ h9 => h9) rfl d_PS_count_53 ?_
      refine va_get (D := (dC, dI)) (ci := 4) (v := .int (nI T)) (C := R_Li) (T := F_Li) (N := 8) hx hb hts i_Li hown hK hP 3 rfl rfl 7 (by decide) (hts _ gw_164) (fun _ h9 => h9) rfl d_PS_count_56 ?_
      exact W.iret (v := nI T) hx hb hr (fun t ht hW => ⟨⟨_, (), rfl, rfl, by rw [ht]; exact hP, va_K.moved hW.alike hK, hD⟩, hS.F ht⟩) hS.2.2 d_PS_count_59
    · refine lv_tableIn (tgt := 60) (off := 59) hx hb d_PS_count_1 (by decide) (by decide) (by decide) (by decide) ?_
      refine lv_aload_n hx hb d_PS_count_60 rfl (lv_at hl 0 rfl) ?_
      refine va_get (D := (dC, dI)) (ci := 0) (v := .ref sk) (C := R_PS) (T := F_PS) (N := 11) hx hb hts i_PS hown hK hP 0 rfl rfl 3 (by decide) (hts _ gw_551) (fun _ h9 => h9) rfl d_PS_count_61 ?_
      refine va_get (D := (dC, dI)) (ci := 9) (v := .ref ch) (C := R_St) (T := F_St) (N := 12) hx hb hts i_St hown hK hP 1 rfl rfl 9 (by decide) (hts _ gw_228) (fun _ h9 => h9) rfl d_PS_count_64 ?_
      refine va_get (D := (dC, dI)) (ci := 1) (v := .int (nI F)) (C := R_Ch) (T := F_Ch) (N := 6) hx hb hts i_Ch hown hK hP 2 rfl rfl 5 (by decide) (hts _ gw_113) (fun _ h9 => h9) rfl d_PS_count_67 ?_
      exact W.iret (v := nI F) hx hb hr (fun t ht hW => ⟨⟨_, (), rfl, rfl, by rw [ht]; exact hP, va_K.moved hW.alike hK, hD⟩, hS.F ht⟩) hS.2.2 d_PS_count_70
    · refine lv_tableIn (tgt := 71) (off := 70) hx hb d_PS_count_1 (by decide) (by decide) (by decide) (by decide) ?_
      refine lv_aload_n hx hb d_PS_count_71 rfl (lv_at hl 0 rfl) ?_
      refine va_get (D := (dC, dI)) (ci := 0) (v := .ref sk) (C := R_PS) (T := F_PS) (N := 11) hx hb hts i_PS hown hK hP 0 rfl rfl 3 (by decide) (hts _ gw_551) (fun _ h9 => h9) rfl d_PS_count_72 ?_
      refine va_get (D := (dC, dI)) (ci := 9) (v := .ref fr) (C := R_St) (T := F_St) (N := 12) hx hb hts i_St hown hK hP 1 rfl rfl 1 (by decide) (hts _ gw_193) (fun _ h9 => h9) rfl d_PS_count_75 ?_
      refine lv_aload_n hx hb d_PS_count_78 rfl (lv_at hl 0 rfl) ?_
      refine va_get (D := (dC, dI)) (ci := 0) (v := .ref sk) (C := R_PS) (T := F_PS) (N := 11) hx hb hts i_PS hown hK hP 0 rfl rfl 3 (by decide) (hts _ gw_551) (fun _ h9 => h9) rfl d_PS_count_79 ?_
      refine va_get (D := (dC, dI)) (ci := 9) (v := .int (nI P)) (C := R_St) (T := F_St) (N := 12) hx hb hts i_St hown hK hP 1 rfl rfl 11 (by decide) (hts _ gw_242) (fun _ h9 => h9) rfl d_PS_count_82 ?_
      refine va_iald hx hb hK hP 4 0 rfl rfl (vp_in_nI (by omega) (by omega)) d_PS_count_85 ?_
      rw [show (nI P).toNatClampNeg = P from nI_clamp (by omega)]
      exact W.iret (v := f P) hx hb hr (fun t ht hW => ⟨⟨_, (), rfl, rfl, by rw [ht]; exact hP, va_K.moved hW.alike hK, hD⟩, hS.F ht⟩) hS.2.2 d_PS_count_86
set_option maxHeartbeats 4000000 in
set_option maxRecDepth 100000 in
/-- checkPatch -/
theorem m_PS_checkPatch (l : Launch) (dC : Nat → ClassId) (dI : Nat → Nat → Nat) (cI cB cL cZ cR : ClassId) (hlt : xl_T l) (h sk : Nat) (ps_tape ps_repositories ps_sha ps_intake ps_view ps_text ps_maker ps_recording ps_tapeLength ps_lastFault sk_bytes sk_from sk_firstDependency sk_firstChange sk_dependencies sk_hashes sk_byHash sk_leansOn sk_leantBy sk_changes sk_lines : Value) (P : Nat) (p0 : Int32) (sz : Nat) (hP9 : P < 2 ^ 31) : xc_Met l y_PS_checkPatch ws_PS_checkPatch ({ frames := 8, cells := 1, slots := 6, locals := 200 }) (xw_Px dC dI [(cI, .int), (cB, .byte), (cL, .long), (cZ, .boolean), (cR, .object "PatchStore$Repository")] [.ref h, .int p0] [(h, .inr (0, [ps_tape, ps_repositories, ps_sha, .ref sk, ps_intake, ps_view, ps_text, ps_maker, ps_recording, ps_tapeLength, ps_lastFault])), (sk, .inr (9, [sk_bytes, sk_from, sk_firstDependency, sk_firstChange, sk_dependencies, sk_hashes, sk_byHash, sk_leansOn, sk_leantBy, sk_changes, sk_lines, .int (nI P)]))] sz) (xc_Q (S := Unit) (fun v (_ : Unit) => (∃ n : Nat, n < P ∧ p0 = nI n) ∧ v = none) (fun C (_ : Unit) => (¬ ∃ n : Nat, n < P ∧ p0 = nI n) ∧ C = "java/util/NoSuchElementException") (fun _ t => xw_B dC dI [(cI, .int), (cB, .byte), (cL, .long), (cZ, .boolean), (cR, .object "PatchStore$Repository")] (va_A [(h, .inr (0, [ps_tape, ps_repositories, ps_sha, .ref sk, ps_intake, ps_view, ps_text, ps_maker, ps_recording, ps_tapeLength, ps_lastFault])), (sk, .inr (9, [sk_bytes, sk_from, sk_firstDependency, sk_firstChange, sk_dependencies, sk_hashes, sk_byHash, sk_leansOn, sk_leantBy, sk_changes, sk_lines, .int (nI P)]))] sz) [(h, .inr (0, [ps_tape, ps_repositories, ps_sha, .ref sk, ps_intake, ps_view, ps_text, ps_maker, ps_recording, ps_tapeLength, ps_lastFault])), (sk, .inr (9, [sk_bytes, sk_from, sk_firstDependency, sk_firstChange, sk_dependencies, sk_hashes, sk_byHash, sk_leansOn, sk_leantBy, sk_changes, sk_lines, .int (nI P)]))] t) (va_A [(h, .inr (0, [ps_tape, ps_repositories, ps_sha, .ref sk, ps_intake, ps_view, ps_text, ps_maker, ps_recording, ps_tapeLength, ps_lastFault])), (sk, .inr (9, [sk_bytes, sk_from, sk_firstDependency, sk_firstChange, sk_dependencies, sk_hashes, sk_byHash, sk_leansOn, sk_leantBy, sk_changes, sk_lines, .int (nI P)]))] sz)) 1 6 (va_A [(h, .inr (0, [ps_tape, ps_repositories, ps_sha, .ref sk, ps_intake, ps_view, ps_text, ps_maker, ps_recording, ps_tapeLength, ps_lastFault])), (sk, .inr (9, [sk_bytes, sk_from, sk_firstDependency, sk_firstChange, sk_dependencies, sk_hashes, sk_byHash, sk_leansOn, sk_leantBy, sk_changes, sk_lines, .int (nI P)]))] sz) := by
  refine xc_ofW (cc := prog_1_method_24_code) (maxL := 2) (ret := none) (by decide) rfl ?_
  intro p e s m args below meth c s₁ B hml hno hv
  obtain ⟨rfl, hsz, hP, hK, hD0, hN, hTh⟩ := hv
  have htr : e.platform.stackTraces = false := hlt e B.admits
  have hx := B.exec
  have hb := B.bytes
  have hr := B.returns
  have hts0 := atoms_spec (ws := ws_PS_checkPatch) B.pre
  have hts : ∀ w ∈ xg_1, w.before _ s = true := fun w h => hts0 w (List.mem_cons_of_mem _ h)
  have hown : s.vm.findClass "PatchStore" = some m.cls := findClass_of_methodNamed B.named
  have hlocks := B.notSynchronized
  subst hsz
  have hD := hD0.self (sz := s.heap.size)
  generalize hAe : va_A [(h, .inr (0, [ps_tape, ps_repositories, ps_sha, .ref sk, ps_intake, ps_view, ps_text, ps_maker, ps_recording, ps_tapeLength, ps_lastFault])), (sk, .inr (9, [sk_bytes, sk_from, sk_firstDependency, sk_firstChange, sk_dependencies, sk_hashes, sk_byHash, sk_leansOn, sk_leantBy, sk_changes, sk_lines, .int (nI P)]))] s.heap.size = A at hD hTh ⊢
  have hA : ∀ q : Nat, s.heap.size ≤ q → A q := fun q h => by rw [← hAe]; exact Or.inr h
  have hS : va_S A s.heap s.heap [] := va_S.rf
  have hl := lv_entry ([.ref h, .int p0]) (n := 2) (Nat.le_of_ble_eq_true rfl)
  rw [lg_entry_eq]
  generalize (lg_sl ([.ref h, .int p0]) ++ List.replicate (2 - (lg_sl ([.ref h, .int p0])).length) Slot.unset).toArray = ls at hl ⊢
  have hl : lv_has ls 2 [(0, .ref h), (1, .int p0)] := hl
  refine lv_iload_n hx hb d_PS_checkPatch_0 rfl (lv_at hl 1 rfl) ?_
  refine lv_if_lt (tgt := 15) hx hb d_PS_checkPatch_1 (by decide) (fun c_1 => ?_) (fun c_1 => ?_)
  · have hc : ¬ ∃ n : Nat, n < P ∧ p0 = nI n := by rintro ⟨n, hn, rfl⟩; exact nI_pos (by omega) c_1
    refine xc_thrownew (A := A) (own := "PatchStore") (C := "java/util/NoSuchElementException") (names := ["java/lang/RuntimeException", "java/lang/Exception"]) (i1 := 174) (i2 := 176) hx hb hml hl.1 hown hlocks hno htr (by decide +kernel) (by decide +kernel) (tw_PS_174 hts hN) (tr_PS_174) (ti_PS_174) (hTh.1.kept (fun a h1 h2 => hS.2.1 a h1 h2)) d_PS_checkPatch_15 d_PS_checkPatch_18 d_PS_checkPatch_19 d_PS_checkPatch_22 (Nat.le_of_ble_eq_true rfl) (Nat.le_of_ble_eq_true rfl) (Nat.le_of_ble_eq_true rfl) (Nat.le_of_ble_eq_true rfl) (fun x9 t9 H9 e1 e2 e3 hW9 hex => ⟨Or.inr ⟨x9, "java/util/NoSuchElementException", (), rfl, ⟨hc, rfl⟩, hex, (by rw [e1]; exact hP.kept (fun k q hq => e3 q.1 ((hP k q hq).lt))), va_K.moved hW9.alike hK, hD⟩, (by rw [e1]; exact Nat.le_trans hS.1 e2), fun q h1 h2 => by rw [e1]; exact (e3 q (Nat.lt_of_lt_of_le h1 hS.1)).trans (hS.2.1 q h1 h2)⟩) hS.2.2
  · refine lv_iload_n hx hb d_PS_checkPatch_4 rfl (lv_at hl 1 rfl) ?_
    refine lv_aload_n hx hb d_PS_checkPatch_5 rfl (lv_at hl 0 rfl) ?_
    refine va_get (D := (dC, dI)) (ci := 0) (v := .ref sk) (C := R_PS) (T := F_PS) (N := 11) hx hb hts i_PS hown hK hP 0 rfl rfl 3 (by decide) (hts _ gw_551) (fun _ h9 => h9) rfl d_PS_checkPatch_6 ?_
    refine va_get (D := (dC, dI)) (ci := 9) (v := .int (nI P)) (C := R_St) (T := F_St) (N := 12) hx hb hts i_St hown hK hP 1 rfl rfl 11 (by decide) (hts _ gw_242) (fun _ h9 => h9) rfl d_PS_checkPatch_9 ?_
    refine lv_icmp_lt (tgt := 23) hx hb d_PS_checkPatch_12 (by decide) (fun c_12 => ?_) (fun c_12 => ?_)
    · obtain ⟨n0, hn0, hp0⟩ := nI_of c_1
      have hc : ∃ n : Nat, n < P ∧ p0 = nI n := ⟨n0, (nI_ltI hn0 (by omega)).mp (hp0 ▸ c_12), hp0⟩
      refine W.widen (k := 1) (n := 6) (Nat.le_of_ble_eq_true rfl) (Nat.le_of_ble_eq_true rfl) ?_
      exact xc_ret (W.vret hx hb hr (fun t ht hW => ⟨Or.inl ⟨_, (), rfl, ⟨hc, rfl⟩, (by rw [ht]; exact hP), va_K.moved hW.alike hK, hD⟩, hS.F ht⟩) hS.2.2 d_PS_checkPatch_23)
    · have hc : ¬ ∃ n : Nat, n < P ∧ p0 = nI n := by rintro ⟨n, hn, rfl⟩; exact c_12 (nI_lt hn (by omega))
      refine xc_thrownew (A := A) (own := "PatchStore") (C := "java/util/NoSuchElementException") (names := ["java/lang/RuntimeException", "java/lang/Exception"]) (i1 := 174) (i2 := 176) hx hb hml hl.1 hown hlocks hno htr (by decide +kernel) (by decide +kernel) (tw_PS_174 hts hN) (tr_PS_174) (ti_PS_174) (hTh.1.kept (fun a h1 h2 => hS.2.1 a h1 h2)) d_PS_checkPatch_15 d_PS_checkPatch_18 d_PS_checkPatch_19 d_PS_checkPatch_22 (Nat.le_of_ble_eq_true rfl) (Nat.le_of_ble_eq_true rfl) (Nat.le_of_ble_eq_true rfl) (Nat.le_of_ble_eq_true rfl) (fun x9 t9 H9 e1 e2 e3 hW9 hex => ⟨Or.inr ⟨x9, "java/util/NoSuchElementException", (), rfl, ⟨hc, rfl⟩, hex, (by rw [e1]; exact hP.kept (fun k q hq => e3 q.1 ((hP k q hq).lt))), va_K.moved hW9.alike hK, hD⟩, (by rw [e1]; exact Nat.le_trans hS.1 e2), fun q h1 h2 => by rw [e1]; exact (e3 q (Nat.lt_of_lt_of_le h1 hS.1)).trans (hS.2.1 q h1 h2)⟩) hS.2.2
set_option maxHeartbeats 4000000 in
set_option maxRecDepth 100000 in
/-- checkHashIndex -/
theorem m_PS_checkHashIndex (l : Launch) (dC : Nat → ClassId) (dI : Nat → Nat → Nat) (cI cB cL cZ cR : ClassId) (hlt : xl_T l) (h : Nat) (ps_tape ps_repositories ps_sha ps_stock ps_intake ps_view ps_text ps_maker ps_recording ps_tapeLength ps_lastFault : Value) (p0 : Int32) (sz : Nat) : xc_Met l y_PS_checkHashIndex ws_PS_checkHashIndex ({ frames := 8, cells := 1, slots := 6, locals := 200 }) (xw_Px dC dI [(cI, .int), (cB, .byte), (cL, .long), (cZ, .boolean), (cR, .object "PatchStore$Repository")] [.ref h, .int p0] [(h, .inr (0, [ps_tape, ps_repositories, ps_sha, ps_stock, ps_intake, ps_view, ps_text, ps_maker, ps_recording, ps_tapeLength, ps_lastFault]))] sz) (xc_Q (S := Unit) (fun v (_ : Unit) => (∃ n : Nat, n < 32 ∧ p0 = nI n) ∧ v = none) (fun C (_ : Unit) => (¬ ∃ n : Nat, n < 32 ∧ p0 = nI n) ∧ C = "java/lang/IndexOutOfBoundsException") (fun _ t => xw_B dC dI [(cI, .int), (cB, .byte), (cL, .long), (cZ, .boolean), (cR, .object "PatchStore$Repository")] (va_A [(h, .inr (0, [ps_tape, ps_repositories, ps_sha, ps_stock, ps_intake, ps_view, ps_text, ps_maker, ps_recording, ps_tapeLength, ps_lastFault]))] sz) [(h, .inr (0, [ps_tape, ps_repositories, ps_sha, ps_stock, ps_intake, ps_view, ps_text, ps_maker, ps_recording, ps_tapeLength, ps_lastFault]))] t) (va_A [(h, .inr (0, [ps_tape, ps_repositories, ps_sha, ps_stock, ps_intake, ps_view, ps_text, ps_maker, ps_recording, ps_tapeLength, ps_lastFault]))] sz)) 1 6 (va_A [(h, .inr (0, [ps_tape, ps_repositories, ps_sha, ps_stock, ps_intake, ps_view, ps_text, ps_maker, ps_recording, ps_tapeLength, ps_lastFault]))] sz) := by
  refine xc_ofW (cc := prog_1_method_25_code) (maxL := 2) (ret := none) (by decide) rfl ?_
  intro p e s m args below meth c s₁ B hml hno hv
  obtain ⟨rfl, hsz, hP, hK, hD0, hN, hTh⟩ := hv
  have htr : e.platform.stackTraces = false := hlt e B.admits
  have hx := B.exec
  have hb := B.bytes
  have hr := B.returns
  have hts0 := atoms_spec (ws := ws_PS_checkHashIndex) B.pre
  have hts : ∀ w ∈ xg_1, w.before _ s = true := fun w h => hts0 w (List.mem_cons_of_mem _ h)
  have hown : s.vm.findClass "PatchStore" = some m.cls := findClass_of_methodNamed B.named
  have hlocks := B.notSynchronized
  subst hsz
  have hD := hD0.self (sz := s.heap.size)
  generalize hAe : va_A [(h, .inr (0, [ps_tape, ps_repositories, ps_sha, ps_stock, ps_intake, ps_view, ps_text, ps_maker, ps_recording, ps_tapeLength, ps_lastFault]))] s.heap.size = A at hD hTh ⊢
  have hA : ∀ q : Nat, s.heap.size ≤ q → A q := fun q h => by rw [← hAe]; exact Or.inr h
  have hS : va_S A s.heap s.heap [] := va_S.rf
  have hl := lv_entry ([.ref h, .int p0]) (n := 2) (Nat.le_of_ble_eq_true rfl)
  rw [lg_entry_eq]
  generalize (lg_sl ([.ref h, .int p0]) ++ List.replicate (2 - (lg_sl ([.ref h, .int p0])).length) Slot.unset).toArray = ls at hl ⊢
  have hl : lv_has ls 2 [(0, .ref h), (1, .int p0)] := hl
  refine lv_iload_n hx hb d_PS_checkHashIndex_0 rfl (lv_at hl 1 rfl) ?_
  refine lv_if_lt (tgt := 10) hx hb d_PS_checkHashIndex_1 (by decide) (fun c_1 => ?_) (fun c_1 => ?_)
  · have hc : ¬ ∃ n : Nat, n < 32 ∧ p0 = nI n := by rintro ⟨n, hn, rfl⟩; exact nI_pos (by omega) c_1
    refine xc_thrownew (A := A) (own := "PatchStore") (C := "java/lang/IndexOutOfBoundsException") (names := ["java/lang/RuntimeException", "java/lang/Exception"]) (i1 := 253) (i2 := 255) hx hb hml hl.1 hown hlocks hno htr (by decide +kernel) (by decide +kernel) (tw_PS_253 hts hN) (tr_PS_253) (ti_PS_253) (hTh.1.kept (fun a h1 h2 => hS.2.1 a h1 h2)) d_PS_checkHashIndex_10 d_PS_checkHashIndex_13 d_PS_checkHashIndex_14 d_PS_checkHashIndex_17 (Nat.le_of_ble_eq_true rfl) (Nat.le_of_ble_eq_true rfl) (Nat.le_of_ble_eq_true rfl) (Nat.le_of_ble_eq_true rfl) (fun x9 t9 H9 e1 e2 e3 hW9 hex => ⟨Or.inr ⟨x9, "java/lang/IndexOutOfBoundsException", (), rfl, ⟨hc, rfl⟩, hex, (by rw [e1]; exact hP.kept (fun k q hq => e3 q.1 ((hP k q hq).lt))), va_K.moved hW9.alike hK, hD⟩, (by rw [e1]; exact Nat.le_trans hS.1 e2), fun q h1 h2 => by rw [e1]; exact (e3 q (Nat.lt_of_lt_of_le h1 hS.1)).trans (hS.2.1 q h1 h2)⟩) hS.2.2
  · refine lv_iload_n hx hb d_PS_checkHashIndex_4 rfl (lv_at hl 1 rfl) ?_
    refine lv_bipush (v := 32) hx hb d_PS_checkHashIndex_5 (by decide) ?_
    refine lv_icmp_lt (tgt := 18) hx hb d_PS_checkHashIndex_7 (by decide) (fun c_7 => ?_) (fun c_7 => ?_)
    · obtain ⟨n0, hn0, hp0⟩ := nI_of c_1
      have hc : ∃ n : Nat, n < 32 ∧ p0 = nI n := ⟨n0, (nI_ltI (b := 32) hn0 (by decide)).mp (hp0 ▸ c_7), hp0⟩
      refine W.widen (k := 1) (n := 6) (Nat.le_of_ble_eq_true rfl) (Nat.le_of_ble_eq_true rfl) ?_
      exact xc_ret (W.vret hx hb hr (fun t ht hW => ⟨Or.inl ⟨_, (), rfl, ⟨hc, rfl⟩, (by rw [ht]; exact hP), va_K.moved hW.alike hK, hD⟩, hS.F ht⟩) hS.2.2 d_PS_checkHashIndex_18)
    · have hc : ¬ ∃ n : Nat, n < 32 ∧ p0 = nI n := by rintro ⟨n, hn, rfl⟩; exact c_7 (nI_lt (b := 32) hn (by decide))
      refine xc_thrownew (A := A) (own := "PatchStore") (C := "java/lang/IndexOutOfBoundsException") (names := ["java/lang/RuntimeException", "java/lang/Exception"]) (i1 := 253) (i2 := 255) hx hb hml hl.1 hown hlocks hno htr (by decide +kernel) (by decide +kernel) (tw_PS_253 hts hN) (tr_PS_253) (ti_PS_253) (hTh.1.kept (fun a h1 h2 => hS.2.1 a h1 h2)) d_PS_checkHashIndex_10 d_PS_checkHashIndex_13 d_PS_checkHashIndex_14 d_PS_checkHashIndex_17 (Nat.le_of_ble_eq_true rfl) (Nat.le_of_ble_eq_true rfl) (Nat.le_of_ble_eq_true rfl) (Nat.le_of_ble_eq_true rfl) (fun x9 t9 H9 e1 e2 e3 hW9 hex => ⟨Or.inr ⟨x9, "java/lang/IndexOutOfBoundsException", (), rfl, ⟨hc, rfl⟩, hex, (by rw [e1]; exact hP.kept (fun k q hq => e3 q.1 ((hP k q hq).lt))), va_K.moved hW9.alike hK, hD⟩, (by rw [e1]; exact Nat.le_trans hS.1 e2), fun q h1 h2 => by rw [e1]; exact (e3 q (Nat.lt_of_lt_of_le h1 hS.1)).trans (hS.2.1 q h1 h2)⟩) hS.2.2
set_option maxHeartbeats 4000000 in
set_option maxRecDepth 100000 in
/-- repositoryAt -/
theorem m_PS_repositoryAt (l : Launch) (dC : Nat → ClassId) (dI : Nat → Nat → Nat) (cI cB cL cZ cR : ClassId) (hlt : xl_T l) (h rp : Nat) (ps_tape ps_sha ps_stock ps_intake ps_view ps_text ps_maker ps_recording ps_tapeLength ps_lastFault : Value) (g : Nat → Nat) (rf : Nat → Option Nat) (p0 : Int32) (sz : Nat) (hrf : ∀ k, k < 8 → rf k = some (g k)) : xc_Met l y_PS_repositoryAt ws_PS_repositoryAt ({ frames := 8, cells := 1, slots := 6, locals := 200 }) (xw_Px dC dI [(cI, .int), (cB, .byte), (cL, .long), (cZ, .boolean), (cR, .object "PatchStore$Repository")] [.ref h, .int p0] [(h, .inr (0, [ps_tape, .ref rp, ps_sha, ps_stock, ps_intake, ps_view, ps_text, ps_maker, ps_recording, ps_tapeLength, ps_lastFault])), (rp, .inl (cR, 8, .inr (.inr (.inr (.inr rf)))))] sz) (xc_Q (S := Unit) (fun v (_ : Unit) => ∃ n : Nat, n < 8 ∧ p0 = nI n ∧ v = some (.ref (g n))) (fun C (_ : Unit) => (¬ ∃ n : Nat, n < 8 ∧ p0 = nI n) ∧ C = "java/util/NoSuchElementException") (fun _ t => xw_B dC dI [(cI, .int), (cB, .byte), (cL, .long), (cZ, .boolean), (cR, .object "PatchStore$Repository")] (va_A [(h, .inr (0, [ps_tape, .ref rp, ps_sha, ps_stock, ps_intake, ps_view, ps_text, ps_maker, ps_recording, ps_tapeLength, ps_lastFault])), (rp, .inl (cR, 8, .inr (.inr (.inr (.inr rf)))))] sz) [(h, .inr (0, [ps_tape, .ref rp, ps_sha, ps_stock, ps_intake, ps_view, ps_text, ps_maker, ps_recording, ps_tapeLength, ps_lastFault])), (rp, .inl (cR, 8, .inr (.inr (.inr (.inr rf)))))] t) (va_A [(h, .inr (0, [ps_tape, .ref rp, ps_sha, ps_stock, ps_intake, ps_view, ps_text, ps_maker, ps_recording, ps_tapeLength, ps_lastFault])), (rp, .inl (cR, 8, .inr (.inr (.inr (.inr rf)))))] sz)) 1 6 (va_A [(h, .inr (0, [ps_tape, .ref rp, ps_sha, ps_stock, ps_intake, ps_view, ps_text, ps_maker, ps_recording, ps_tapeLength, ps_lastFault])), (rp, .inl (cR, 8, .inr (.inr (.inr (.inr rf)))))] sz) := by
  refine xc_ofW (cc := prog_1_method_22_code) (maxL := 2) (ret := (Option.some (Jvm.ClassFile.FieldType.object "PatchStore$Repository"))) (by decide) rfl ?_
  intro p e s m args below meth c s₁ B hml hno hv
  obtain ⟨rfl, hsz, hP, hK, hD0, hN, hTh⟩ := hv
  have htr : e.platform.stackTraces = false := hlt e B.admits
  have hx := B.exec
  have hb := B.bytes
  have hr := B.returns
  have hts0 := atoms_spec (ws := ws_PS_repositoryAt) B.pre
  have hts : ∀ w ∈ xg_1, w.before _ s = true := fun w h => hts0 w (List.mem_cons_of_mem _ h)
  have hown : s.vm.findClass "PatchStore" = some m.cls := findClass_of_methodNamed B.named
  have hlocks := B.notSynchronized
  subst hsz
  have hD := hD0.self (sz := s.heap.size)
  generalize hAe : va_A [(h, .inr (0, [ps_tape, .ref rp, ps_sha, ps_stock, ps_intake, ps_view, ps_text, ps_maker, ps_recording, ps_tapeLength, ps_lastFault])), (rp, .inl (cR, 8, .inr (.inr (.inr (.inr rf)))))] s.heap.size = A at hD hTh ⊢
  have hA : ∀ q : Nat, s.heap.size ≤ q → A q := fun q h => by rw [← hAe]; exact Or.inr h
  have hS : va_S A s.heap s.heap [] := va_S.rf
  have hl := lv_entry ([.ref h, .int p0]) (n := 2) (Nat.le_of_ble_eq_true rfl)
  rw [lg_entry_eq]
  generalize (lg_sl ([.ref h, .int p0]) ++ List.replicate (2 - (lg_sl ([.ref h, .int p0])).length) Slot.unset).toArray = ls at hl ⊢
  have hl : lv_has ls 2 [(0, .ref h), (1, .int p0)] := hl
  generalize hQe : xc_MQ _ _ _ _ _ _ _ = Q
  refine lv_iload_n hx hb d_PS_repositoryAt_0 rfl (lv_at hl 1 rfl) ?_
  refine lv_if_lt (tgt := 10) hx hb d_PS_repositoryAt_1 (by decide) (fun c_1 => ?_) (fun c_1 => ?_)
  · have hc : ¬ ∃ n : Nat, n < 8 ∧ p0 = nI n := by rintro ⟨n, hn, rfl⟩; exact nI_pos (by omega) c_1
    rw [← hQe]
    refine xc_thrownew (A := A) (own := "PatchStore") (C := "java/util/NoSuchElementException") (names := ["java/lang/RuntimeException", "java/lang/Exception"]) (i1 := 174) (i2 := 176) hx hb hml hl.1 hown hlocks hno htr (by decide +kernel) (by decide +kernel) (tw_PS_174 hts hN) (tr_PS_174) (ti_PS_174) (hTh.1.kept (fun a h1 h2 => hS.2.1 a h1 h2)) d_PS_repositoryAt_10 d_PS_repositoryAt_13 d_PS_repositoryAt_14 d_PS_repositoryAt_17 (Nat.le_of_ble_eq_true rfl) (Nat.le_of_ble_eq_true rfl) (Nat.le_of_ble_eq_true rfl) (Nat.le_of_ble_eq_true rfl) (fun x9 t9 H9 e1 e2 e3 hW9 hex => ⟨Or.inr ⟨x9, "java/util/NoSuchElementException", (), rfl, ⟨hc, rfl⟩, hex, (by rw [e1]; exact hP.kept (fun k q hq => e3 q.1 ((hP k q hq).lt))), va_K.moved hW9.alike hK, hD⟩, (by rw [e1]; exact Nat.le_trans hS.1 e2), fun q h1 h2 => by rw [e1]; exact (e3 q (Nat.lt_of_lt_of_le h1 hS.1)).trans (hS.2.1 q h1 h2)⟩) hS.2.2
  · refine lv_iload_n hx hb d_PS_repositoryAt_4 rfl (lv_at hl 1 rfl) ?_
    refine lv_bipush (v := 8) hx hb d_PS_repositoryAt_5 (by decide) ?_
    refine lv_icmp_lt (tgt := 18) hx hb d_PS_repositoryAt_7 (by decide) (fun c_7 => ?_) (fun c_7 => ?_)
    · obtain ⟨n0, hn0, hp0⟩ := nI_of c_1
      have hc : n0 < 8 := (nI_ltI (b := 8) hn0 (by decide)).mp (hp0 ▸ c_7)
      subst hp0
      refine lv_aload_n hx hb d_PS_repositoryAt_18 rfl (lv_at hl 0 rfl) ?_
      refine va_get (D := (dC, dI)) (ci := 0) (v := .ref rp) (C := R_PS) (T := F_PS) (N := 11) hx hb hts i_PS hown hK hP 0 rfl rfl 1 (by decide) (hts _ gw_549) (fun _ h9 => h9) rfl d_PS_repositoryAt_19 ?_
      refine lv_iload_n hx hb d_PS_repositoryAt_22 rfl (lv_at hl 1 rfl) ?_
      refine va_aldq hx hb hK hP 1 4 rfl rfl (vp_in_nI (by omega) (by omega)) d_PS_repositoryAt_23 ?_
      rw [show (nI n0).toNatClampNeg = n0 from nI_clamp (by omega)]
      rw [hrf n0 hc]
      rw [← hQe]
      refine W.widen (k := 1) (n := 6) (Nat.le_of_ble_eq_true rfl) (Nat.le_of_ble_eq_true rfl) ?_
      exact xc_ret (W.aret (v := .ref (g n0)) hx hb hr (Or.inl ⟨_, rfl⟩) (Or.inr ⟨_, rfl⟩) (fun t ht hW => ⟨Or.inl ⟨_, (), rfl, ⟨n0, hc, rfl, rfl⟩, (by rw [ht]; exact hP), va_K.moved hW.alike hK, hD⟩, hS.F ht⟩) hS.2.2 d_PS_repositoryAt_24)
    · have hc : ¬ ∃ n : Nat, n < 8 ∧ p0 = nI n := by rintro ⟨n, hn, rfl⟩; exact c_7 (nI_lt (b := 8) hn (by decide))
      rw [← hQe]
      refine xc_thrownew (A := A) (own := "PatchStore") (C := "java/util/NoSuchElementException") (names := ["java/lang/RuntimeException", "java/lang/Exception"]) (i1 := 174) (i2 := 176) hx hb hml hl.1 hown hlocks hno htr (by decide +kernel) (by decide +kernel) (tw_PS_174 hts hN) (tr_PS_174) (ti_PS_174) (hTh.1.kept (fun a h1 h2 => hS.2.1 a h1 h2)) d_PS_repositoryAt_10 d_PS_repositoryAt_13 d_PS_repositoryAt_14 d_PS_repositoryAt_17 (Nat.le_of_ble_eq_true rfl) (Nat.le_of_ble_eq_true rfl) (Nat.le_of_ble_eq_true rfl) (Nat.le_of_ble_eq_true rfl) (fun x9 t9 H9 e1 e2 e3 hW9 hex => ⟨Or.inr ⟨x9, "java/util/NoSuchElementException", (), rfl, ⟨hc, rfl⟩, hex, (by rw [e1]; exact hP.kept (fun k q hq => e3 q.1 ((hP k q hq).lt))), va_K.moved hW9.alike hK, hD⟩, (by rw [e1]; exact Nat.le_trans hS.1 e2), fun q h1 h2 => by rw [e1]; exact (e3 q (Nat.lt_of_lt_of_le h1 hS.1)).trans (hS.2.1 q h1 h2)⟩) hS.2.2
