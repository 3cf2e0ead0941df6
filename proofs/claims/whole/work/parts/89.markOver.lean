/-! 89.markOver.lean.txt -/
theorem gw_87 : (Jvm.Cond.fieldLink "PatchStore$View" (94 : Nat) "PatchStore$Changes" "at" "[I") ∈ xg_1 := xg_s1 87 rfl rfl
theorem gw_183 : (Jvm.Cond.fieldLink "PatchStore$View" (103 : Nat) "PatchStore$Stock" "bytes" "[B") ∈ xg_1 := xg_s1 183 rfl rfl
theorem gw_197 : (Jvm.Cond.fieldLink "PatchStore$View" (91 : Nat) "PatchStore$Stock" "firstChange" "[I") ∈ xg_1 := xg_s1 197 rfl rfl
theorem gw_1004 : (Jvm.Cond.methodLink "PatchStore$View" (99 : Nat) ({ cls := "PatchStore$Stock", name := "kind", desc := "(I)I" } : Jvm.MethodName)) ∈ xg_1 := xg_s5 44 rfl rfl
theorem gw_1005 : (Jvm.Cond.methodLink "PatchStore$View" (107 : Nat) ({ cls := "PatchStore$Stock", name := "changeNamed", desc := "(II)I" } : Jvm.MethodName)) ∈ xg_1 := xg_s5 45 rfl rfl
def y_Vw_markOver : MethodName := ⟨"PatchStore$View", "markOver", "(I)V"⟩
abbrev c_Vw_markOver : Cond := (Jvm.Cond.code ({ cls := "PatchStore$View", name := "markOver", desc := "(I)V" } : Jvm.MethodName) prog_12_method_3_code (6 : Nat) (Option.none : Option Jvm.ClassFile.FieldType))
abbrev ws_Vw_markOver : List Cond := c_Vw_markOver :: xg_1
theorem d_Vw_markOver_0 : decode prog_12_method_3_code 0 = .ok (.aload_n 0, 1) := by decide +kernel
theorem d_Vw_markOver_1 : decode prog_12_method_3_code 1 = .ok (.getfield 34, 3) := by decide +kernel
theorem d_Vw_markOver_4 : decode prog_12_method_3_code 4 = .ok (.getfield 91, 3) := by decide +kernel
theorem d_Vw_markOver_7 : decode prog_12_method_3_code 7 = .ok (.iload_n 1, 1) := by decide +kernel
theorem d_Vw_markOver_8 : decode prog_12_method_3_code 8 = .ok (.iaload, 1) := by decide +kernel
theorem d_Vw_markOver_9 : decode prog_12_method_3_code 9 = .ok (.istore_n 2, 1) := by decide +kernel
theorem d_Vw_markOver_10 : decode prog_12_method_3_code 10 = .ok (.iload_n 2, 1) := by decide +kernel
theorem d_Vw_markOver_11 : decode prog_12_method_3_code 11 = .ok (.aload_n 0, 1) := by decide +kernel
theorem d_Vw_markOver_12 : decode prog_12_method_3_code 12 = .ok (.getfield 34, 3) := by decide +kernel
theorem d_Vw_markOver_15 : decode prog_12_method_3_code 15 = .ok (.getfield 91, 3) := by decide +kernel
theorem d_Vw_markOver_18 : decode prog_12_method_3_code 18 = .ok (.iload_n 1, 1) := by decide +kernel
theorem d_Vw_markOver_19 : decode prog_12_method_3_code 19 = .ok (.iconst 1, 1) := by decide +kernel
theorem d_Vw_markOver_20 : decode prog_12_method_3_code 20 = .ok (.iadd, 1) := by decide +kernel
theorem d_Vw_markOver_21 : decode prog_12_method_3_code 21 = .ok (.iaload, 1) := by decide +kernel
theorem d_Vw_markOver_22 : decode prog_12_method_3_code 22 = .ok (.if_icmp .ge 94, 3) := by decide +kernel
theorem d_Vw_markOver_25 : decode prog_12_method_3_code 25 = .ok (.aload_n 0, 1) := by decide +kernel
theorem d_Vw_markOver_26 : decode prog_12_method_3_code 26 = .ok (.getfield 44, 3) := by decide +kernel
theorem d_Vw_markOver_29 : decode prog_12_method_3_code 29 = .ok (.getfield 94, 3) := by decide +kernel
theorem d_Vw_markOver_32 : decode prog_12_method_3_code 32 = .ok (.iload_n 2, 1) := by decide +kernel
theorem d_Vw_markOver_33 : decode prog_12_method_3_code 33 = .ok (.iaload, 1) := by decide +kernel
theorem d_Vw_markOver_34 : decode prog_12_method_3_code 34 = .ok (.istore_n 3, 1) := by decide +kernel
theorem d_Vw_markOver_35 : decode prog_12_method_3_code 35 = .ok (.aload_n 0, 1) := by decide +kernel
theorem d_Vw_markOver_36 : decode prog_12_method_3_code 36 = .ok (.getfield 34, 3) := by decide +kernel
theorem d_Vw_markOver_39 : decode prog_12_method_3_code 39 = .ok (.iload_n 2, 1) := by decide +kernel
theorem d_Vw_markOver_40 : decode prog_12_method_3_code 40 = .ok (.invokevirtual 99, 3) := by decide +kernel
theorem d_Vw_markOver_43 : decode prog_12_method_3_code 43 = .ok (.iconst 1, 1) := by decide +kernel
theorem d_Vw_markOver_44 : decode prog_12_method_3_code 44 = .ok (.if_icmp .ne 21, 3) := by decide +kernel
theorem d_Vw_markOver_47 : decode prog_12_method_3_code 47 = .ok (.aload_n 0, 1) := by decide +kernel
theorem d_Vw_markOver_48 : decode prog_12_method_3_code 48 = .ok (.getfield 34, 3) := by decide +kernel
theorem d_Vw_markOver_51 : decode prog_12_method_3_code 51 = .ok (.getfield 103, 3) := by decide +kernel
theorem d_Vw_markOver_54 : decode prog_12_method_3_code 54 = .ok (.iload_n 3, 1) := by decide +kernel
theorem d_Vw_markOver_55 : decode prog_12_method_3_code 55 = .ok (.iconst 5, 1) := by decide +kernel
theorem d_Vw_markOver_56 : decode prog_12_method_3_code 56 = .ok (.iadd, 1) := by decide +kernel
theorem d_Vw_markOver_57 : decode prog_12_method_3_code 57 = .ok (.baload, 1) := by decide +kernel
theorem d_Vw_markOver_58 : decode prog_12_method_3_code 58 = .ok (.sipush 255, 3) := by decide +kernel
theorem d_Vw_markOver_61 : decode prog_12_method_3_code 61 = .ok (.iand, 1) := by decide +kernel
theorem d_Vw_markOver_62 : decode prog_12_method_3_code 62 = .ok (.goto 4, 3) := by decide +kernel
theorem d_Vw_markOver_65 : decode prog_12_method_3_code 65 = .ok (.iconst 0, 1) := by decide +kernel
theorem d_Vw_markOver_66 : decode prog_12_method_3_code 66 = .ok (.istore 4, 2) := by decide +kernel
theorem d_Vw_markOver_68 : decode prog_12_method_3_code 68 = .ok (.iconst 0, 1) := by decide +kernel
theorem d_Vw_markOver_69 : decode prog_12_method_3_code 69 = .ok (.istore 5, 2) := by decide +kernel
theorem d_Vw_markOver_71 : decode prog_12_method_3_code 71 = .ok (.iload 5, 2) := by decide +kernel
theorem d_Vw_markOver_73 : decode prog_12_method_3_code 73 = .ok (.iload 4, 2) := by decide +kernel
theorem d_Vw_markOver_75 : decode prog_12_method_3_code 75 = .ok (.if_icmp .ge 35, 3) := by decide +kernel
theorem d_Vw_markOver_78 : decode prog_12_method_3_code 78 = .ok (.aload_n 0, 1) := by decide +kernel
theorem d_Vw_markOver_79 : decode prog_12_method_3_code 79 = .ok (.getfield 22, 3) := by decide +kernel
theorem d_Vw_markOver_82 : decode prog_12_method_3_code 82 = .ok (.aload_n 0, 1) := by decide +kernel
theorem d_Vw_markOver_83 : decode prog_12_method_3_code 83 = .ok (.getfield 34, 3) := by decide +kernel
theorem d_Vw_markOver_86 : decode prog_12_method_3_code 86 = .ok (.iload_n 1, 1) := by decide +kernel
theorem d_Vw_markOver_87 : decode prog_12_method_3_code 87 = .ok (.iload_n 3, 1) := by decide +kernel
theorem d_Vw_markOver_88 : decode prog_12_method_3_code 88 = .ok (.bipush 6, 2) := by decide +kernel
theorem d_Vw_markOver_90 : decode prog_12_method_3_code 90 = .ok (.iadd, 1) := by decide +kernel
theorem d_Vw_markOver_91 : decode prog_12_method_3_code 91 = .ok (.iconst 4, 1) := by decide +kernel
theorem d_Vw_markOver_92 : decode prog_12_method_3_code 92 = .ok (.iload 5, 2) := by decide +kernel
theorem d_Vw_markOver_94 : decode prog_12_method_3_code 94 = .ok (.imul, 1) := by decide +kernel
theorem d_Vw_markOver_95 : decode prog_12_method_3_code 95 = .ok (.iadd, 1) := by decide +kernel
theorem d_Vw_markOver_96 : decode prog_12_method_3_code 96 = .ok (.invokevirtual 107, 3) := by decide +kernel
theorem d_Vw_markOver_99 : decode prog_12_method_3_code 99 = .ok (.aload_n 0, 1) := by decide +kernel
theorem d_Vw_markOver_100 : decode prog_12_method_3_code 100 = .ok (.getfield 56, 3) := by decide +kernel
theorem d_Vw_markOver_103 : decode prog_12_method_3_code 103 = .ok (.iastore, 1) := by decide +kernel
theorem d_Vw_markOver_104 : decode prog_12_method_3_code 104 = .ok (.iinc 5 1, 3) := by decide +kernel
theorem d_Vw_markOver_107 : decode prog_12_method_3_code 107 = .ok (.goto (-36), 3) := by decide +kernel
theorem d_Vw_markOver_110 : decode prog_12_method_3_code 110 = .ok (.iinc 2 1, 3) := by decide +kernel
theorem d_Vw_markOver_113 : decode prog_12_method_3_code 113 = .ok (.goto (-103), 3) := by decide +kernel
theorem d_Vw_markOver_116 : decode prog_12_method_3_code 116 = .ok (.return_, 1) := by decide +kernel
set_option maxHeartbeats 4000000 in
set_option maxRecDepth 100000 in
/-- the namings that the calls of a patch are over -/
theorem m_Vw_markOver (l : Launch) (dC : Nat → ClassId) (dI : Nat → Nat → Nat) (cI cB cL cZ cR : ClassId) (h sk b_y fdA dpA fcA ch cat ovA : Nat) (vw_files vw_namingsOf vw_namings vw_fileTotal vw_namingTotal vw_loaded vw_version vw_heads vw_nexts vw_sharing sk_from sk_hashes sk_byHash sk_leansOn sk_leantBy sk_lines sk_patches ch_patch ch_file ch_firstLine ch_adds ch_files : Value) (Z : StkA) (S : Stk) (ov : Nat → Int32) (rd pp : Nat) (sz : Nat) (I : sInv S) (R : rep S Z) (hp9 : pp < S.P) : Met l y_Vw_markOver ws_Vw_markOver ({ frames := 2, cells := 0, slots := 0, locals := 120 }) (xw_Pc dC dI [(cI, .int), (cB, .byte), (cL, .long), (cZ, .boolean), (cR, .object "PatchStore$Repository")] [.ref h, .int (nI pp)] [(h, .inr (11, [vw_files, vw_namingsOf, vw_namings, vw_fileTotal, vw_namingTotal, .ref sk, .ref ch, vw_loaded, vw_version, .ref ovA, .int (nI rd), vw_heads, vw_nexts, vw_sharing])), (sk, .inr (9, [.ref b_y, sk_from, .ref fdA, .ref fcA, .ref dpA, sk_hashes, sk_byHash, sk_leansOn, sk_leantBy, .ref ch, sk_lines, sk_patches])), (b_y, .inl (cB, 290000, .inl S.f)), (fdA, .inl (cI, 502, .inl Z.fd)), (dpA, .inl (cI, 8400, .inl Z.dp)), (fcA, .inl (cI, 502, .inl Z.fc)), (ch, .inr (1, [.ref cat, ch_patch, ch_file, ch_firstLine, ch_adds, ch_files])), (cat, .inl (cI, 38000, .inl Z.ca)), (ovA, .inl (cI, 38000, .inl ov))] sz) (va_Qv (fun u : Nat → Int32 => setR u ov (ovX S pp) (nI rd)) (fun u t => xw_B dC dI [(cI, .int), (cB, .byte), (cL, .long), (cZ, .boolean), (cR, .object "PatchStore$Repository")] (va_A [(h, .inr (11, [vw_files, vw_namingsOf, vw_namings, vw_fileTotal, vw_namingTotal, .ref sk, .ref ch, vw_loaded, vw_version, .ref ovA, .int (nI rd), vw_heads, vw_nexts, vw_sharing])), (sk, .inr (9, [.ref b_y, sk_from, .ref fdA, .ref fcA, .ref dpA, sk_hashes, sk_byHash, sk_leansOn, sk_leantBy, .ref ch, sk_lines, sk_patches])), (b_y, .inl (cB, 290000, .inl S.f)), (fdA, .inl (cI, 502, .inl Z.fd)), (dpA, .inl (cI, 8400, .inl Z.dp)), (fcA, .inl (cI, 502, .inl Z.fc)), (ch, .inr (1, [.ref cat, ch_patch, ch_file, ch_firstLine, ch_adds, ch_files])), (cat, .inl (cI, 38000, .inl Z.ca)), (ovA, .inl (cI, 38000, .inl ov))] sz) [(h, .inr (11, [vw_files, vw_namingsOf, vw_namings, vw_fileTotal, vw_namingTotal, .ref sk, .ref ch, vw_loaded, vw_version, .ref ovA, .int (nI rd), vw_heads, vw_nexts, vw_sharing])), (sk, .inr (9, [.ref b_y, sk_from, .ref fdA, .ref fcA, .ref dpA, sk_hashes, sk_byHash, sk_leansOn, sk_leantBy, .ref ch, sk_lines, sk_patches])), (b_y, .inl (cB, 290000, .inl S.f)), (fdA, .inl (cI, 502, .inl Z.fd)), (dpA, .inl (cI, 8400, .inl Z.dp)), (fcA, .inl (cI, 502, .inl Z.fc)), (ch, .inr (1, [.ref cat, ch_patch, ch_file, ch_firstLine, ch_adds, ch_files])), (cat, .inl (cI, 38000, .inl Z.ca)), (ovA, .inl (cI, 38000, .inl u))] t) (va_A [(h, .inr (11, [vw_files, vw_namingsOf, vw_namings, vw_fileTotal, vw_namingTotal, .ref sk, .ref ch, vw_loaded, vw_version, .ref ovA, .int (nI rd), vw_heads, vw_nexts, vw_sharing])), (sk, .inr (9, [.ref b_y, sk_from, .ref fdA, .ref fcA, .ref dpA, sk_hashes, sk_byHash, sk_leansOn, sk_leantBy, .ref ch, sk_lines, sk_patches])), (b_y, .inl (cB, 290000, .inl S.f)), (fdA, .inl (cI, 502, .inl Z.fd)), (dpA, .inl (cI, 8400, .inl Z.dp)), (fcA, .inl (cI, 502, .inl Z.fc)), (ch, .inr (1, [.ref cat, ch_patch, ch_file, ch_firstLine, ch_adds, ch_files])), (cat, .inl (cI, 38000, .inl Z.ca)), (ovA, .inl (cI, 38000, .inl ov))] sz)) 0 0 (va_A [(h, .inr (11, [vw_files, vw_namingsOf, vw_namings, vw_fileTotal, vw_namingTotal, .ref sk, .ref ch, vw_loaded, vw_version, .ref ovA, .int (nI rd), vw_heads, vw_nexts, vw_sharing])), (sk, .inr (9, [.ref b_y, sk_from, .ref fdA, .ref fcA, .ref dpA, sk_hashes, sk_byHash, sk_leansOn, sk_leantBy, .ref ch, sk_lines, sk_patches])), (b_y, .inl (cB, 290000, .inl S.f)), (fdA, .inl (cI, 502, .inl Z.fd)), (dpA, .inl (cI, 8400, .inl Z.dp)), (fcA, .inl (cI, 502, .inl Z.fc)), (ch, .inr (1, [.ref cat, ch_patch, ch_file, ch_firstLine, ch_adds, ch_files])), (cat, .inl (cI, 38000, .inl Z.ca)), (ovA, .inl (cI, 38000, .inl ov))] sz) := by
  refine Met.ofW (cc := prog_12_method_3_code) (maxL := 6) (ret := none) (by decide) rfl ?_
  intro p e s m args below meth c s₁ B hml hv
  obtain ⟨rfl, hsz, hP, hK, hD0⟩ := hv
  have hx := B.exec
  have hb := B.bytes
  have hr := B.returns
  have hts0 := atoms_spec (ws := ws_Vw_markOver) B.pre
  have hts : ∀ w ∈ xg_1, w.before _ s = true := fun w h => hts0 w (List.mem_cons_of_mem _ h)
  have hown : s.vm.findClass "PatchStore$View" = some m.cls := findClass_of_methodNamed B.named
  have hlocks := B.notSynchronized
  subst hsz
  have hD := hD0.self (sz := s.heap.size)
  generalize hAe : va_A [(h, .inr (11, [vw_files, vw_namingsOf, vw_namings, vw_fileTotal, vw_namingTotal, .ref sk, .ref ch, vw_loaded, vw_version, .ref ovA, .int (nI rd), vw_heads, vw_nexts, vw_sharing])), (sk, .inr (9, [.ref b_y, sk_from, .ref fdA, .ref fcA, .ref dpA, sk_hashes, sk_byHash, sk_leansOn, sk_leantBy, .ref ch, sk_lines, sk_patches])), (b_y, .inl (cB, 290000, .inl S.f)), (fdA, .inl (cI, 502, .inl Z.fd)), (dpA, .inl (cI, 8400, .inl Z.dp)), (fcA, .inl (cI, 502, .inl Z.fc)), (ch, .inr (1, [.ref cat, ch_patch, ch_file, ch_firstLine, ch_adds, ch_files])), (cat, .inl (cI, 38000, .inl Z.ca)), (ovA, .inl (cI, 38000, .inl ov))] s.heap.size = A at hD ⊢
  have hA : ∀ q : Nat, s.heap.size ≤ q → A q := fun q h => by rw [← hAe]; exact Or.inr h
  have hS : va_S A s.heap s.heap [] := va_S.rf
  have hl := lv_entry ([.ref h, .int (nI pp)]) (n := 6) (Nat.le_of_ble_eq_true rfl)
  rw [lg_entry_eq]
  generalize (lg_sl ([.ref h, .int (nI pp)]) ++ List.replicate (6 - (lg_sl ([.ref h, .int (nI pp)])).length) Slot.unset).toArray = ls at hl ⊢
  have hl : lv_has ls 6 [(0, .ref h), (1, .int (nI pp))] := hl
  generalize hQe : MQ _ _ _ _ _ _ _ = Q
  obtain ⟨hb1, hb2, hb3, hb4, hb5⟩ := I.bounds hp9
  have hb6 := I.hP
  have hnd5 : S.nd pp ≤ 2048 := by omega
  have hpi := I.pi pp hp9
  have hgD : ∀ i, i < S.nd pp → Z.dp (S.FD pp + i) = nI (S.dp pp i) ∧ S.dp pp i < pp := fun i z => ⟨R.dp _ (by have := hpi.fd; have := I.fdm (i := pp + 1) (k := S.P) (by omega) (Nat.le_refl _); omega), (hpi.dep i z).1⟩
  refine lv_aload_n hx hb d_Vw_markOver_0 rfl (lv_at hl 0 rfl) ?_
  refine va_get (D := (dC, dI)) (ci := 11) (v := .ref sk) (C := R_Vw) (T := F_Vw) (N := 14) hx hb hts i_Vw hown hK hP 0 rfl rfl 5 (by decide) (hts _ gw_330) (fun _ h9 => h9) rfl d_Vw_markOver_1 ?_
  refine va_get (D := (dC, dI)) (ci := 9) (v := .ref fcA) (C := R_St) (T := F_St) (N := 12) hx hb hts i_St hown hK hP 1 rfl rfl 3 (by decide) (hts _ gw_197) (fun _ h9 => h9) rfl d_Vw_markOver_4 ?_
  refine lv_iload_n hx hb d_Vw_markOver_7 rfl (lv_at hl 1 rfl) ?_
  refine va_iald hx hb hK hP 5 0 rfl rfl (vp_in_nI (by omega) (by omega)) d_Vw_markOver_8 ?_
  rw [show (nI pp).toNatClampNeg = pp from nI_clamp (by omega)]
  refine lv_topi (fun x_1 ex_1 => ?_)
  obtain rfl : x_1 = nI (S.FC pp) := by rw [ex_1]; first | done | (exact R.fc pp (by omega))
  refine lv_istore_n (lv' := [(2, .int (nI (S.FC pp))), (0, .ref h), (1, .int (nI pp))]) hx hb d_Vw_markOver_9 rfl hl (by decide) rfl (fun ls hl => ?_)
  have loop_10 : ∀ (n9 : Nat) (j : Nat) (ovu : Nat → Int32) (H : Heap) (locs : List Loc) (ls : Array Slot), S.nT pp - j < n9 → (j ≤ S.nT pp) → (setR ovu ov (ovN S pp j) (nI rd)) → va_P (dC, dI) classes [(h, .inr (11, [vw_files, vw_namingsOf, vw_namings, vw_fileTotal, vw_namingTotal, .ref sk, .ref ch, vw_loaded, vw_version, .ref ovA, .int (nI rd), vw_heads, vw_nexts, vw_sharing])), (sk, .inr (9, [.ref b_y, sk_from, .ref fdA, .ref fcA, .ref dpA, sk_hashes, sk_byHash, sk_leansOn, sk_leantBy, .ref ch, sk_lines, sk_patches])), (b_y, .inl (cB, 290000, .inl S.f)), (fdA, .inl (cI, 502, .inl Z.fd)), (dpA, .inl (cI, 8400, .inl Z.dp)), (fcA, .inl (cI, 502, .inl Z.fc)), (ch, .inr (1, [.ref cat, ch_patch, ch_file, ch_firstLine, ch_adds, ch_files])), (cat, .inl (cI, 38000, .inl Z.ca)), (ovA, .inl (cI, 38000, .inl ovu))] H → va_D A [(h, .inr (11, [vw_files, vw_namingsOf, vw_namings, vw_fileTotal, vw_namingTotal, .ref sk, .ref ch, vw_loaded, vw_version, .ref ovA, .int (nI rd), vw_heads, vw_nexts, vw_sharing])), (sk, .inr (9, [.ref b_y, sk_from, .ref fdA, .ref fcA, .ref dpA, sk_hashes, sk_byHash, sk_leansOn, sk_leantBy, .ref ch, sk_lines, sk_patches])), (b_y, .inl (cB, 290000, .inl S.f)), (fdA, .inl (cI, 502, .inl Z.fd)), (dpA, .inl (cI, 8400, .inl Z.dp)), (fcA, .inl (cI, 502, .inl Z.fc)), (ch, .inr (1, [.ref cat, ch_patch, ch_file, ch_firstLine, ch_adds, ch_files])), (cat, .inl (cI, 38000, .inl Z.ca)), (ovA, .inl (cI, 38000, .inl ovu))] → va_S A s.heap H locs → lv_has ls 6 [(0, .ref h), (1, .int (nI pp)), (2, .int (nI (S.FC pp + j)))] → W p l e (headSpec ws_Vw_markOver ({ frames := 2, cells := 0, slots := 0, locals := 120 })).room s m ([.ref h, .int (nI pp)] : List Value).toArray below meth c H locs 0 0 Q (F0 m 10 ls []) := by
    intro n9
    induction n9 with
    | zero => intro j ovu H locs ls hm; exact absurd hm (Nat.not_lt_zero _)
    | succ n9 ih_10 =>
      intro j ovu H locs ls hm hj hq1 hP hD hS hl
      refine lv_iload_n hx hb d_Vw_markOver_10 rfl (lv_at hl 2 rfl) ?_
      refine lv_aload_n hx hb d_Vw_markOver_11 rfl (lv_at hl 0 rfl) ?_
      refine va_get (D := (dC, dI)) (ci := 11) (v := .ref sk) (C := R_Vw) (T := F_Vw) (N := 14) hx hb hts i_Vw hown hK hP 0 rfl rfl 5 (by decide) (hts _ gw_330) (fun _ h9 => h9) rfl d_Vw_markOver_12 ?_
      refine va_get (D := (dC, dI)) (ci := 9) (v := .ref fcA) (C := R_St) (T := F_St) (N := 12) hx hb hts i_St hown hK hP 1 rfl rfl 3 (by decide) (hts _ gw_197) (fun _ h9 => h9) rfl d_Vw_markOver_15 ?_
      refine lv_iload_n hx hb d_Vw_markOver_18 rfl (lv_at hl 1 rfl) ?_
      refine lv_iconst (v := 1) hx hb d_Vw_markOver_19 (by decide) ?_
      refine lv_iadd hx hb d_Vw_markOver_20 ?_
      refine lv_topi (fun x_2 ex_2 => ?_)
      obtain rfl : x_2 = nI (pp + 1) := by rw [ex_2]; first | done | (exact nI_add _ _)
      refine va_iald hx hb hK hP 5 0 rfl rfl (vp_in_nI (by omega) (by omega)) d_Vw_markOver_21 ?_
      rw [show (nI (pp + 1)).toNatClampNeg = (pp + 1) from nI_clamp (by omega)]
      refine lv_topi (fun x_3 ex_3 => ?_)
      obtain rfl : x_3 = nI (S.FC pp + S.nT pp) := by rw [ex_3]; first | done | (rw [R.fc (pp + 1) (by omega), hpi.fc])
      refine lv_icmp_ge (tgt := 116) hx hb d_Vw_markOver_22 (by decide) (fun c_22 => ?_) (fun c_22 => ?_)
      · have n_22 : (S.FC pp + S.nT pp) ≤ (S.FC pp + j) := (nI_leI (a := (S.FC pp + S.nT pp)) (b := (S.FC pp + j)) (by omega) (by omega)).mp c_22
        rw [← hQe]
        exact W.vret hx hb hr (fun t ht hW => ⟨⟨ovu, rfl, (by rw [show j = S.nT pp by omega] at hq1; exact hq1), by rw [ht]; exact hP, va_K.moved hW.alike hK, hD⟩, hS.F ht⟩) hS.2.2 d_Vw_markOver_116
      · have n_22 : (S.FC pp + j) < (S.FC pp + S.nT pp) := Nat.lt_of_not_le (fun z => c_22 ((nI_leI (a := (S.FC pp + S.nT pp)) (b := (S.FC pp + j)) (by omega) (by omega)).mpr z))
        have hga := R.ca (S.FC pp + j) (by omega)
        have hcw := I.chw (k := pp + 1) (by omega) (x := (S.FC pp + j)) (by rw [hpi.fc]; omega)
        have hcw1 := hcw.1
        refine lv_aload_n hx hb d_Vw_markOver_25 rfl (lv_at hl 0 rfl) ?_
        refine va_get (D := (dC, dI)) (ci := 11) (v := .ref ch) (C := R_Vw) (T := F_Vw) (N := 14) hx hb hts i_Vw hown hK hP 0 rfl rfl 6 (by decide) (hts _ gw_331) (fun _ h9 => h9) rfl d_Vw_markOver_26 ?_
        refine va_get (D := (dC, dI)) (ci := 1) (v := .ref cat) (C := R_Ch) (T := F_Ch) (N := 6) hx hb hts i_Ch hown hK hP 6 rfl rfl 0 (by decide) (hts _ gw_87) (fun _ h9 => h9) rfl d_Vw_markOver_29 ?_
        refine lv_iload_n hx hb d_Vw_markOver_32 rfl (lv_at hl 2 rfl) ?_
        refine va_iald hx hb hK hP 7 0 rfl rfl (vp_in_nI (by omega) (by omega)) d_Vw_markOver_33 ?_
        rw [show (nI (S.FC pp + j)).toNatClampNeg = (S.FC pp + j) from nI_clamp (by omega)]
        refine lv_topi (fun x_4 ex_4 => ?_)
        obtain rfl : x_4 = nI (S.CA (S.FC pp + j)) := by rw [ex_4]; first | done | (exact hga)
        refine lv_istore_n (lv' := [(3, .int (nI (S.CA (S.FC pp + j)))), (0, .ref h), (1, .int (nI pp)), (2, .int (nI (S.FC pp + j)))]) hx hb d_Vw_markOver_34 rfl hl (by decide) rfl (fun ls hl => ?_)
        refine lv_aload_n hx hb d_Vw_markOver_35 rfl (lv_at hl 1 rfl) ?_
        refine va_get (D := (dC, dI)) (ci := 11) (v := .ref sk) (C := R_Vw) (T := F_Vw) (N := 14) hx hb hts i_Vw hown hK hP 0 rfl rfl 5 (by decide) (hts _ gw_330) (fun _ h9 => h9) rfl d_Vw_markOver_36 ?_
        refine lv_iload_n hx hb d_Vw_markOver_39 rfl (lv_at hl 3 rfl) ?_
        have hPc := hP.sub (ws' := [(sk, .inr (9, [.ref b_y, sk_from, .ref fdA, .ref fcA, .ref dpA, sk_hashes, sk_byHash, sk_leansOn, sk_leantBy, .ref ch, sk_lines, sk_patches])), (b_y, .inl (cB, 290000, .inl S.f)), (ch, .inr (1, [.ref cat, ch_patch, ch_file, ch_firstLine, ch_adds, ch_files])), (cat, .inl (cI, 38000, .inl Z.ca))]) [1, 2, 6, 7] rfl
        have hDc := hD.sub (ws' := [(sk, .inr (9, [.ref b_y, sk_from, .ref fdA, .ref fcA, .ref dpA, sk_hashes, sk_byHash, sk_leansOn, sk_leantBy, .ref ch, sk_lines, sk_patches])), (b_y, .inl (cB, 290000, .inl S.f)), (ch, .inr (1, [.ref cat, ch_patch, ch_file, ch_firstLine, ch_adds, ch_files])), (cat, .inl (cI, 38000, .inl Z.ca))]) [1, 2, 6, 7] (by decide) rfl
        have hFc := va_free (wc := [(sk, .inr (9, [.ref b_y, sk_from, .ref fdA, .ref fcA, .ref dpA, sk_hashes, sk_byHash, sk_leansOn, sk_leantBy, .ref ch, sk_lines, sk_patches])), (b_y, .inl (cB, 290000, .inl S.f)), (ch, .inr (1, [.ref cat, ch_patch, ch_file, ch_firstLine, ch_adds, ch_files])), (cat, .inl (cI, 38000, .inl Z.ca))]) hD hS hA [1, 2, 6, 7] rfl
        refine va_calli (va_runV (As := [.int (nI (S.FC pp + j))]) (rest := []) ⟨hx, hb, hml, hown, hts⟩ (m_St_kind l dC dI cI cB cL cZ cR sk b_y ch cat (sk_from) (.ref fdA) (.ref fcA) (.ref dpA) (sk_hashes) (sk_byHash) (sk_leansOn) (sk_leantBy) (sk_lines) (sk_patches) (ch_patch) (ch_file) (ch_firstLine) (ch_adds) (ch_files) S.f Z.ca (S.FC pp + j) (S.CA (S.FC pp + j)) H.size (by omega) hga (by omega)) (cwV 1 hts (xg_V gw_1004 gw_890 gw_891 gw_3 gw_892) rfl rfl rfl (by decide +kernel) ⟨Nat.le_of_ble_eq_true rfl, Nat.le_of_ble_eq_true rfl⟩) ⟨xw_blind, va_recv hK hPc (ci := 9) (q0 := 0) rfl rfl, fun U hU hW => ⟨rfl, by rw [hU], by rw [hU]; exact hPc, va_K.moved hW.alike hK, hDc.weaken (fun _ _ _ _ => trivial)⟩⟩ rfl rfl hl.1 rfl (lv_room (Nat.le_of_ble_eq_true rfl)) d_Vw_markOver_40 ⟨Nat.le_of_ble_eq_true rfl, Nat.le_of_ble_eq_true rfl⟩) hS (fun q _ h => hFc q h) hFc (fun r9 u t H1 locs ht hvm hw hB hz1 hk1 hS => ?_)
        obtain ⟨hP1, hK1, hD1⟩ := hB
        rw [ht] at hP1
        obtain ⟨hP, hD⟩ := va_join (wr := [(h, .inr (11, [vw_files, vw_namingsOf, vw_namings, vw_fileTotal, vw_namingTotal, .ref sk, .ref ch, vw_loaded, vw_version, .ref ovA, .int (nI rd), vw_heads, vw_nexts, vw_sharing])), (fdA, .inl (cI, 502, .inl Z.fd)), (dpA, .inl (cI, 8400, .inl Z.dp)), (fcA, .inl (cI, 502, .inl Z.fc)), (ovA, .inl (cI, 38000, .inl ovu))]) (w1 := [(sk, .inr (9, [.ref b_y, sk_from, .ref fdA, .ref fcA, .ref dpA, sk_hashes, sk_byHash, sk_leansOn, sk_leantBy, .ref ch, sk_lines, sk_patches])), (b_y, .inl (cB, 290000, .inl S.f)), (ch, .inr (1, [.ref cat, ch_patch, ch_file, ch_firstLine, ch_adds, ch_files])), (cat, .inl (cI, 38000, .inl Z.ca))]) hP hD [1, 2, 6, 7] [0, 3, 4, 5, 8] rfl rfl (by decide) (by decide) hk1 hFc hP1 hD1
        generalize H1 = H at hP hS ⊢
        have hP : va_P (dC, dI) classes [(h, .inr (11, [vw_files, vw_namingsOf, vw_namings, vw_fileTotal, vw_namingTotal, .ref sk, .ref ch, vw_loaded, vw_version, .ref ovA, .int (nI rd), vw_heads, vw_nexts, vw_sharing])), (fdA, .inl (cI, 502, .inl Z.fd)), (dpA, .inl (cI, 8400, .inl Z.dp)), (fcA, .inl (cI, 502, .inl Z.fc)), (ovA, .inl (cI, 38000, .inl ovu)), (sk, .inr (9, [.ref b_y, sk_from, .ref fdA, .ref fcA, .ref dpA, sk_hashes, sk_byHash, sk_leansOn, sk_leantBy, .ref ch, sk_lines, sk_patches])), (b_y, .inl (cB, 290000, .inl S.f)), (ch, .inr (1, [.ref cat, ch_patch, ch_file, ch_firstLine, ch_adds, ch_files])), (cat, .inl (cI, 38000, .inl Z.ca))] H := hP
        have hD : va_D A [(h, .inr (11, [vw_files, vw_namingsOf, vw_namings, vw_fileTotal, vw_namingTotal, .ref sk, .ref ch, vw_loaded, vw_version, .ref ovA, .int (nI rd), vw_heads, vw_nexts, vw_sharing])), (fdA, .inl (cI, 502, .inl Z.fd)), (dpA, .inl (cI, 8400, .inl Z.dp)), (fcA, .inl (cI, 502, .inl Z.fc)), (ovA, .inl (cI, 38000, .inl ovu)), (sk, .inr (9, [.ref b_y, sk_from, .ref fdA, .ref fcA, .ref dpA, sk_hashes, sk_byHash, sk_leansOn, sk_leantBy, .ref ch, sk_lines, sk_patches])), (b_y, .inl (cB, 290000, .inl S.f)), (ch, .inr (1, [.ref cat, ch_patch, ch_file, ch_firstLine, ch_adds, ch_files])), (cat, .inl (cI, 38000, .inl Z.ca))] := hD
        subst hw
        refine lv_iconst (v := 1) hx hb d_Vw_markOver_43 (by decide) ?_
        refine lv_icmp_ne (tgt := 65) hx hb d_Vw_markOver_44 (by decide) (fun c_44 => ?_) (fun c_44 => ?_)
        · refine lv_iconst (v := 0) hx hb d_Vw_markOver_65 (by decide) ?_
          refine lv_istore (lv' := [(4, .int 0), (3, .int (nI (S.CA (S.FC pp + j)))), (0, .ref h), (1, .int (nI pp)), (2, .int (nI (S.FC pp + j)))]) hx hb d_Vw_markOver_66 hl (by decide) rfl (fun ls hl => ?_)
          refine lv_iconst (v := 0) hx hb d_Vw_markOver_68 (by decide) ?_
          refine lv_istore (lv' := [(5, .int 0), (4, .int 0), (3, .int (nI (S.CA (S.FC pp + j)))), (0, .ref h), (1, .int (nI pp)), (2, .int (nI (S.FC pp + j)))]) hx hb d_Vw_markOver_69 hl (by decide) rfl (fun ls hl => ?_)
          have loop_71 : ∀ (n9 : Nat) (k : Nat) (mm : Nat) (ovv : Nat → Int32) (H : Heap) (locs : List Loc) (ls : Array Slot), mm - k < n9 → (k ≤ mm) → ((S.f (S.CA (S.FC pp + j)) = 1 ∧ mm = (b8 (S.f (S.CA (S.FC pp + j) + 5)))) ∨ (¬ S.f (S.CA (S.FC pp + j)) = 1 ∧ mm = 0)) → (setR ovv ov (fun x => ovN S pp j x ∨ ovJ S pp j k x) (nI rd)) → va_P (dC, dI) classes [(h, .inr (11, [vw_files, vw_namingsOf, vw_namings, vw_fileTotal, vw_namingTotal, .ref sk, .ref ch, vw_loaded, vw_version, .ref ovA, .int (nI rd), vw_heads, vw_nexts, vw_sharing])), (sk, .inr (9, [.ref b_y, sk_from, .ref fdA, .ref fcA, .ref dpA, sk_hashes, sk_byHash, sk_leansOn, sk_leantBy, .ref ch, sk_lines, sk_patches])), (b_y, .inl (cB, 290000, .inl S.f)), (fdA, .inl (cI, 502, .inl Z.fd)), (dpA, .inl (cI, 8400, .inl Z.dp)), (fcA, .inl (cI, 502, .inl Z.fc)), (ch, .inr (1, [.ref cat, ch_patch, ch_file, ch_firstLine, ch_adds, ch_files])), (cat, .inl (cI, 38000, .inl Z.ca)), (ovA, .inl (cI, 38000, .inl ovv))] H → va_D A [(h, .inr (11, [vw_files, vw_namingsOf, vw_namings, vw_fileTotal, vw_namingTotal, .ref sk, .ref ch, vw_loaded, vw_version, .ref ovA, .int (nI rd), vw_heads, vw_nexts, vw_sharing])), (sk, .inr (9, [.ref b_y, sk_from, .ref fdA, .ref fcA, .ref dpA, sk_hashes, sk_byHash, sk_leansOn, sk_leantBy, .ref ch, sk_lines, sk_patches])), (b_y, .inl (cB, 290000, .inl S.f)), (fdA, .inl (cI, 502, .inl Z.fd)), (dpA, .inl (cI, 8400, .inl Z.dp)), (fcA, .inl (cI, 502, .inl Z.fc)), (ch, .inr (1, [.ref cat, ch_patch, ch_file, ch_firstLine, ch_adds, ch_files])), (cat, .inl (cI, 38000, .inl Z.ca)), (ovA, .inl (cI, 38000, .inl ovv))] → va_S A s.heap H locs → lv_has ls 6 [(0, .ref h), (1, .int (nI pp)), (2, .int (nI (S.FC pp + j))), (3, .int (nI (S.CA (S.FC pp + j)))), (4, .int (nI mm)), (5, .int (nI k))] → W p l e (headSpec ws_Vw_markOver ({ frames := 2, cells := 0, slots := 0, locals := 120 })).room s m ([.ref h, .int (nI pp)] : List Value).toArray below meth c H locs 0 0 Q (F0 m 71 ls []) := by
            intro n9
            induction n9 with
            | zero => intro k mm ovv H locs ls hm; exact absurd hm (Nat.not_lt_zero _)
            | succ n9 ih_71 =>
              intro k mm ovv H locs ls hm hk hmm hq2 hP hD hS hl
              have hmb : mm < 256 := by rcases hmm with ⟨_, z⟩ | ⟨_, z⟩; exact z ▸ b8_lt _; omega
              refine lv_iload hx hb d_Vw_markOver_71 (lv_at hl 5 rfl) ?_
              refine lv_iload hx hb d_Vw_markOver_73 (lv_at hl 4 rfl) ?_
              refine lv_icmp_ge (tgt := 110) hx hb d_Vw_markOver_75 (by decide) (fun c_75 => ?_) (fun c_75 => ?_)
              · have n_75 : mm ≤ k := (nI_leI (a := mm) (b := k) (by omega) (by omega)).mp c_75
                refine lv_iinc (v := nI (S.FC pp + j + 1)) (lv' := [(2, .int (nI (S.FC pp + j + 1))), (0, .ref h), (1, .int (nI pp)), (3, .int (nI (S.CA (S.FC pp + j)))), (4, .int (nI mm)), (5, .int (nI k))]) hx hb d_Vw_markOver_110 hl (k := 2) rfl (by exact nI_add _ _) (by decide) rfl (fun ls hl => ?_)
                refine lv_goto (tgt := 10) hx hb d_Vw_markOver_113 (by decide) ?_
                exact ih_10 (j + 1) ovv _ _ _ (by omega) (by omega) (hq2.iff (ovN_step hmm (by omega))) hP hD hS (lv_sub hl [1, 2, 0] rfl)
              · have n_75 : k < mm := Nat.lt_of_not_le (fun z => c_75 ((nI_leI (a := mm) (b := k) (by omega) (by omega)).mpr z))
                have hk1 : S.f (S.CA (S.FC pp + j)) = 1 := hmm.elim (fun z => z.1) (fun z => absurd n_75 (by have := z.2; omega))
                have hmM : mm = (b8 (S.f (S.CA (S.FC pp + j) + 5))) := hmm.elim (fun z => z.2) (fun z => absurd hk1 z.1)
                have hcw2 := hcw.2.1 hk1
                refine lv_aload_n hx hb d_Vw_markOver_78 rfl (lv_at hl 0 rfl) ?_
                refine va_get (D := (dC, dI)) (ci := 11) (v := .ref ovA) (C := R_Vw) (T := F_Vw) (N := 14) hx hb hts i_Vw hown hK hP 0 rfl rfl 9 (by decide) (hts _ gw_334) (fun _ h9 => h9) rfl d_Vw_markOver_79 ?_
                refine lv_aload_n hx hb d_Vw_markOver_82 rfl (lv_at hl 0 rfl) ?_
                refine va_get (D := (dC, dI)) (ci := 11) (v := .ref sk) (C := R_Vw) (T := F_Vw) (N := 14) hx hb hts i_Vw hown hK hP 0 rfl rfl 5 (by decide) (hts _ gw_330) (fun _ h9 => h9) rfl d_Vw_markOver_83 ?_
                refine lv_iload_n hx hb d_Vw_markOver_86 rfl (lv_at hl 1 rfl) ?_
                refine lv_iload_n hx hb d_Vw_markOver_87 rfl (lv_at hl 3 rfl) ?_
                refine lv_bipush (v := 6) hx hb d_Vw_markOver_88 (by decide) ?_
                refine lv_iadd hx hb d_Vw_markOver_90 ?_
                refine lv_topi (fun x_5 ex_5 => ?_)
                obtain rfl : x_5 = nI ((S.CA (S.FC pp + j)) + 6) := by rw [ex_5]; first | done | (exact nI_add _ _)
                refine lv_iconst (v := 4) hx hb d_Vw_markOver_91 (by decide) ?_
                refine lv_iload hx hb d_Vw_markOver_92 (lv_at hl 5 rfl) ?_
                refine lv_imul hx hb d_Vw_markOver_94 ?_
                refine lv_topi (fun x_6 ex_6 => ?_)
                obtain rfl : x_6 = nI (4 * k) := by rw [ex_6]; first | done | (exact nI_mul _ _)
                refine lv_iadd hx hb d_Vw_markOver_95 ?_
                refine lv_topi (fun x_7 ex_7 => ?_)
                obtain rfl : x_7 = nI (((S.CA (S.FC pp + j)) + 6) + (4 * k)) := by rw [ex_7]; first | done | (exact nI_add _ _)
                obtain ⟨xx, hxk, hxl, hxn, hxf⟩ := I.ref hp9 (by omega) hk1 (by omega : k < (b8 (S.f (S.CA (S.FC pp + j) + 5))))
                obtain ⟨ow1, ow2, ow3⟩ := cnR.own (fdf := Z.fd) (dpf := Z.dp) (D0 := S.FD pp) (by omega) (R.fd pp (by omega)) (by omega) hgD (show cnR S.f (S.dp pp) S.FC pp (S.nd pp) (S.FC pp + j) (S.CA (S.FC pp + j) + 6 + 4 * k) xx from hxk)
                have hPc := hP.sub (ws' := [(sk, .inr (9, [.ref b_y, sk_from, .ref fdA, .ref fcA, .ref dpA, sk_hashes, sk_byHash, sk_leansOn, sk_leantBy, .ref ch, sk_lines, sk_patches])), (b_y, .inl (cB, 290000, .inl S.f)), (fdA, .inl (cI, 502, .inl Z.fd)), (dpA, .inl (cI, 8400, .inl Z.dp)), (fcA, .inl (cI, 502, .inl Z.fc))]) [1, 2, 3, 4, 5] rfl
                have hDc := hD.sub (ws' := [(sk, .inr (9, [.ref b_y, sk_from, .ref fdA, .ref fcA, .ref dpA, sk_hashes, sk_byHash, sk_leansOn, sk_leantBy, .ref ch, sk_lines, sk_patches])), (b_y, .inl (cB, 290000, .inl S.f)), (fdA, .inl (cI, 502, .inl Z.fd)), (dpA, .inl (cI, 8400, .inl Z.dp)), (fcA, .inl (cI, 502, .inl Z.fc))]) [1, 2, 3, 4, 5] (by decide) rfl
                have hFc := va_free (wc := [(sk, .inr (9, [.ref b_y, sk_from, .ref fdA, .ref fcA, .ref dpA, sk_hashes, sk_byHash, sk_leansOn, sk_leantBy, .ref ch, sk_lines, sk_patches])), (b_y, .inl (cB, 290000, .inl S.f)), (fdA, .inl (cI, 502, .inl Z.fd)), (dpA, .inl (cI, 8400, .inl Z.dp)), (fcA, .inl (cI, 502, .inl Z.fc))]) hD hS hA [1, 2, 3, 4, 5] rfl
                refine va_calli (va_runV (As := [.int (nI pp), .int (nI (((S.CA (S.FC pp + j)) + 6) + (4 * k)))]) (rest := [.ref ovA]) ⟨hx, hb, hml, hown, hts⟩ (m_St_changeNamed l dC dI cI cB cL cZ cR sk b_y fdA dpA fcA (sk_from) (sk_hashes) (sk_byHash) (sk_leansOn) (sk_leantBy) (.ref ch) (sk_lines) (sk_patches) S.f Z.fd Z.dp Z.fc pp (S.CA (S.FC pp + j) + 6 + 4 * k) (owN S.f (S.dp pp) pp (S.CA (S.FC pp + j) + 6 + 4 * k)) (S.FC (owN S.f (S.dp pp) pp (S.CA (S.FC pp + j) + 6 + 4 * k))) H.size (by omega) (by omega) ow1 (by omega) (R.fc _ (by omega))) (cwV 2 hts (xg_V gw_1005 gw_932 gw_933 gw_3 gw_934) rfl rfl rfl (by decide +kernel) ⟨Nat.le_of_ble_eq_true rfl, Nat.le_of_ble_eq_true rfl⟩) ⟨xw_blind, va_recv hK hPc (ci := 9) (q0 := 0) rfl rfl, fun U hU hW => ⟨rfl, by rw [hU], by rw [hU]; exact hPc, va_K.moved hW.alike hK, hDc.weaken (fun _ _ _ _ => trivial)⟩⟩ rfl rfl hl.1 rfl (lv_room (Nat.le_of_ble_eq_true rfl)) d_Vw_markOver_96 ⟨Nat.le_of_ble_eq_true rfl, Nat.le_of_ble_eq_true rfl⟩) hS (fun q _ h => hFc q h) hFc (fun r9 u t H1 locs ht hvm hw hB hz1 hk1 hS => ?_)
                obtain ⟨hP1, hK1, hD1⟩ := hB
                rw [ht] at hP1
                obtain ⟨hP, hD⟩ := va_join (wr := [(h, .inr (11, [vw_files, vw_namingsOf, vw_namings, vw_fileTotal, vw_namingTotal, .ref sk, .ref ch, vw_loaded, vw_version, .ref ovA, .int (nI rd), vw_heads, vw_nexts, vw_sharing])), (ch, .inr (1, [.ref cat, ch_patch, ch_file, ch_firstLine, ch_adds, ch_files])), (cat, .inl (cI, 38000, .inl Z.ca)), (ovA, .inl (cI, 38000, .inl ovv))]) (w1 := [(sk, .inr (9, [.ref b_y, sk_from, .ref fdA, .ref fcA, .ref dpA, sk_hashes, sk_byHash, sk_leansOn, sk_leantBy, .ref ch, sk_lines, sk_patches])), (b_y, .inl (cB, 290000, .inl S.f)), (fdA, .inl (cI, 502, .inl Z.fd)), (dpA, .inl (cI, 8400, .inl Z.dp)), (fcA, .inl (cI, 502, .inl Z.fc))]) hP hD [1, 2, 3, 4, 5] [0, 6, 7, 8] rfl rfl (by decide) (by decide) hk1 hFc hP1 hD1
                generalize H1 = H at hP hS ⊢
                have hP : va_P (dC, dI) classes [(h, .inr (11, [vw_files, vw_namingsOf, vw_namings, vw_fileTotal, vw_namingTotal, .ref sk, .ref ch, vw_loaded, vw_version, .ref ovA, .int (nI rd), vw_heads, vw_nexts, vw_sharing])), (ch, .inr (1, [.ref cat, ch_patch, ch_file, ch_firstLine, ch_adds, ch_files])), (cat, .inl (cI, 38000, .inl Z.ca)), (ovA, .inl (cI, 38000, .inl ovv)), (sk, .inr (9, [.ref b_y, sk_from, .ref fdA, .ref fcA, .ref dpA, sk_hashes, sk_byHash, sk_leansOn, sk_leantBy, .ref ch, sk_lines, sk_patches])), (b_y, .inl (cB, 290000, .inl S.f)), (fdA, .inl (cI, 502, .inl Z.fd)), (dpA, .inl (cI, 8400, .inl Z.dp)), (fcA, .inl (cI, 502, .inl Z.fc))] H := hP
                have hD : va_D A [(h, .inr (11, [vw_files, vw_namingsOf, vw_namings, vw_fileTotal, vw_namingTotal, .ref sk, .ref ch, vw_loaded, vw_version, .ref ovA, .int (nI rd), vw_heads, vw_nexts, vw_sharing])), (ch, .inr (1, [.ref cat, ch_patch, ch_file, ch_firstLine, ch_adds, ch_files])), (cat, .inl (cI, 38000, .inl Z.ca)), (ovA, .inl (cI, 38000, .inl ovv)), (sk, .inr (9, [.ref b_y, sk_from, .ref fdA, .ref fcA, .ref dpA, sk_hashes, sk_byHash, sk_leansOn, sk_leantBy, .ref ch, sk_lines, sk_patches])), (b_y, .inl (cB, 290000, .inl S.f)), (fdA, .inl (cI, 502, .inl Z.fd)), (dpA, .inl (cI, 8400, .inl Z.dp)), (fcA, .inl (cI, 502, .inl Z.fc))] := hD
                obtain rfl : r9 = nI xx := hw.trans (congrArg nI ow3.symm)
                refine lv_aload_n hx hb d_Vw_markOver_99 rfl (lv_at hl 0 rfl) ?_
                refine va_get (D := (dC, dI)) (ci := 11) (v := .int (nI rd)) (C := R_Vw) (T := F_Vw) (N := 14) hx hb hts i_Vw hown hK hP 0 rfl rfl 10 (by decide) (hts _ gw_335) (fun _ h9 => h9) rfl d_Vw_markOver_100 ?_
                refine va_iast hx hb hK hP hD hS 3 0 rfl rfl (vp_in_nI (by omega) (by omega)) d_Vw_markOver_103 (fun H locs hP hD hS => ?_)
                rw [show (nI xx).toNatClampNeg = xx from nI_clamp (by omega)] at hP hD
                have hP : va_P (dC, dI) classes [(h, .inr (11, [vw_files, vw_namingsOf, vw_namings, vw_fileTotal, vw_namingTotal, .ref sk, .ref ch, vw_loaded, vw_version, .ref ovA, .int (nI rd), vw_heads, vw_nexts, vw_sharing])), (ch, .inr (1, [.ref cat, ch_patch, ch_file, ch_firstLine, ch_adds, ch_files])), (cat, .inl (cI, 38000, .inl Z.ca)), (ovA, .inl (cI, 38000, .inl (upd ovv xx (nI rd)))), (sk, .inr (9, [.ref b_y, sk_from, .ref fdA, .ref fcA, .ref dpA, sk_hashes, sk_byHash, sk_leansOn, sk_leantBy, .ref ch, sk_lines, sk_patches])), (b_y, .inl (cB, 290000, .inl S.f)), (fdA, .inl (cI, 502, .inl Z.fd)), (dpA, .inl (cI, 8400, .inl Z.dp)), (fcA, .inl (cI, 502, .inl Z.fc))] H := hP
                have hD : va_D A [(h, .inr (11, [vw_files, vw_namingsOf, vw_namings, vw_fileTotal, vw_namingTotal, .ref sk, .ref ch, vw_loaded, vw_version, .ref ovA, .int (nI rd), vw_heads, vw_nexts, vw_sharing])), (ch, .inr (1, [.ref cat, ch_patch, ch_file, ch_firstLine, ch_adds, ch_files])), (cat, .inl (cI, 38000, .inl Z.ca)), (ovA, .inl (cI, 38000, .inl (upd ovv xx (nI rd)))), (sk, .inr (9, [.ref b_y, sk_from, .ref fdA, .ref fcA, .ref dpA, sk_hashes, sk_byHash, sk_leansOn, sk_leantBy, .ref ch, sk_lines, sk_patches])), (b_y, .inl (cB, 290000, .inl S.f)), (fdA, .inl (cI, 502, .inl Z.fd)), (dpA, .inl (cI, 8400, .inl Z.dp)), (fcA, .inl (cI, 502, .inl Z.fc))] := hD
                refine lv_iinc (v := nI (k + 1)) (lv' := [(5, .int (nI (k + 1))), (0, .ref h), (1, .int (nI pp)), (2, .int (nI (S.FC pp + j))), (3, .int (nI (S.CA (S.FC pp + j)))), (4, .int (nI mm))]) hx hb d_Vw_markOver_104 hl (k := 5) rfl (by exact nI_add _ _) (by decide) rfl (fun ls hl => ?_)
                refine lv_goto (tgt := 71) hx hb d_Vw_markOver_107 (by decide) ?_
                exact ih_71 (k + 1) mm (upd ovv xx (nI rd)) _ _ _ (by omega) (by omega) (hmm) (hq2.upd (fun x => by rw [ovJ_step hnd5 hxk x]; exact or_assoc.symm)) (hP.sub [0, 4, 5, 6, 7, 8, 1, 2, 3] rfl) (hD.sub [0, 4, 5, 6, 7, 8, 1, 2, 3] (by decide) rfl) hS (lv_sub hl [1, 2, 3, 4, 5, 0] rfl)
          exact loop_71 _ 0 0 ovu _ _ _ (Nat.lt_succ_self _) (Nat.le_refl _) (Or.inr ⟨c_44, rfl⟩) (hq1.iff ovJ_0) (hP.sub [0, 5, 6, 1, 2, 3, 7, 8, 4] rfl) (hD.sub [0, 5, 6, 1, 2, 3, 7, 8, 4] (by decide) rfl) hS (lv_sub hl [3, 4, 5, 2, 1, 0] rfl)
        · refine lv_aload_n hx hb d_Vw_markOver_47 rfl (lv_at hl 1 rfl) ?_
          refine va_get (D := (dC, dI)) (ci := 11) (v := .ref sk) (C := R_Vw) (T := F_Vw) (N := 14) hx hb hts i_Vw hown hK hP 0 rfl rfl 5 (by decide) (hts _ gw_330) (fun _ h9 => h9) rfl d_Vw_markOver_48 ?_
          refine va_get (D := (dC, dI)) (ci := 9) (v := .ref b_y) (C := R_St) (T := F_St) (N := 12) hx hb hts i_St hown hK hP 5 rfl rfl 0 (by decide) (hts _ gw_183) (fun _ h9 => h9) rfl d_Vw_markOver_51 ?_
          refine lv_iload_n hx hb d_Vw_markOver_54 rfl (lv_at hl 0 rfl) ?_
          refine lv_iconst (v := 5) hx hb d_Vw_markOver_55 (by decide) ?_
          refine lv_iadd hx hb d_Vw_markOver_56 ?_
          refine lv_topi (fun x_8 ex_8 => ?_)
          obtain rfl : x_8 = nI ((S.CA (S.FC pp + j)) + 5) := by rw [ex_8]; first | done | (exact nI_add _ _)
          refine va_bald hx hb hK hP 6 1 rfl rfl (vp_in_nI (by omega) (by omega)) d_Vw_markOver_57 ?_
          rw [show (nI ((S.CA (S.FC pp + j)) + 5)).toNatClampNeg = ((S.CA (S.FC pp + j)) + 5) from nI_clamp (by omega)]
          refine lv_sipush (v := 255) hx hb d_Vw_markOver_58 (by decide) ?_
          refine lv_iand hx hb d_Vw_markOver_61 ?_
          refine lv_topi (fun x_9 ex_9 => ?_)
          obtain rfl : x_9 = nI (b8 (S.f ((S.CA (S.FC pp + j)) + 5))) := by rw [ex_9]; first | done | (exact b8_eq _)
          refine lv_goto (tgt := 66) hx hb d_Vw_markOver_62 (by decide) ?_
          refine lv_istore (lv' := [(4, .int (nI (b8 (S.f ((S.CA (S.FC pp + j)) + 5))))), (3, .int (nI (S.CA (S.FC pp + j)))), (0, .ref h), (1, .int (nI pp)), (2, .int (nI (S.FC pp + j)))]) hx hb d_Vw_markOver_66 hl (by decide) rfl (fun ls hl => ?_)
          refine lv_iconst (v := 0) hx hb d_Vw_markOver_68 (by decide) ?_
          refine lv_istore (lv' := [(5, .int 0), (4, .int (nI (b8 (S.f ((S.CA (S.FC pp + j)) + 5))))), (3, .int (nI (S.CA (S.FC pp + j)))), (0, .ref h), (1, .int (nI pp)), (2, .int (nI (S.FC pp + j)))]) hx hb d_Vw_markOver_69 hl (by decide) rfl (fun ls hl => ?_)
          have loop_71 : ∀ (n9 : Nat) (k : Nat) (mm : Nat) (ovv : Nat → Int32) (H : Heap) (locs : List Loc) (ls : Array Slot), mm - k < n9 → (k ≤ mm) → ((S.f (S.CA (S.FC pp + j)) = 1 ∧ mm = (b8 (S.f (S.CA (S.FC pp + j) + 5)))) ∨ (¬ S.f (S.CA (S.FC pp + j)) = 1 ∧ mm = 0)) → (setR ovv ov (fun x => ovN S pp j x ∨ ovJ S pp j k x) (nI rd)) → va_P (dC, dI) classes [(h, .inr (11, [vw_files, vw_namingsOf, vw_namings, vw_fileTotal, vw_namingTotal, .ref sk, .ref ch, vw_loaded, vw_version, .ref ovA, .int (nI rd), vw_heads, vw_nexts, vw_sharing])), (sk, .inr (9, [.ref b_y, sk_from, .ref fdA, .ref fcA, .ref dpA, sk_hashes, sk_byHash, sk_leansOn, sk_leantBy, .ref ch, sk_lines, sk_patches])), (b_y, .inl (cB, 290000, .inl S.f)), (fdA, .inl (cI, 502, .inl Z.fd)), (dpA, .inl (cI, 8400, .inl Z.dp)), (fcA, .inl (cI, 502, .inl Z.fc)), (ch, .inr (1, [.ref cat, ch_patch, ch_file, ch_firstLine, ch_adds, ch_files])), (cat, .inl (cI, 38000, .inl Z.ca)), (ovA, .inl (cI, 38000, .inl ovv))] H → va_D A [(h, .inr (11, [vw_files, vw_namingsOf, vw_namings, vw_fileTotal, vw_namingTotal, .ref sk, .ref ch, vw_loaded, vw_version, .ref ovA, .int (nI rd), vw_heads, vw_nexts, vw_sharing])), (sk, .inr (9, [.ref b_y, sk_from, .ref fdA, .ref fcA, .ref dpA, sk_hashes, sk_byHash, sk_leansOn, sk_leantBy, .ref ch, sk_lines, sk_patches])), (b_y, .inl (cB, 290000, .inl S.f)), (fdA, .inl (cI, 502, .inl Z.fd)), (dpA, .inl (cI, 8400, .inl Z.dp)), (fcA, .inl (cI, 502, .inl Z.fc)), (ch, .inr (1, [.ref cat, ch_patch, ch_file, ch_firstLine, ch_adds, ch_files])), (cat, .inl (cI, 38000, .inl Z.ca)), (ovA, .inl (cI, 38000, .inl ovv))] → va_S A s.heap H locs → lv_has ls 6 [(0, .ref h), (1, .int (nI pp)), (2, .int (nI (S.FC pp + j))), (3, .int (nI (S.CA (S.FC pp + j)))), (4, .int (nI mm)), (5, .int (nI k))] → W p l e (headSpec ws_Vw_markOver ({ frames := 2, cells := 0, slots := 0, locals := 120 })).room s m ([.ref h, .int (nI pp)] : List Value).toArray below meth c H locs 0 0 Q (F0 m 71 ls []) := by
            intro n9
            induction n9 with
            | zero => intro k mm ovv H locs ls hm; exact absurd hm (Nat.not_lt_zero _)
            | succ n9 ih_71 =>
              intro k mm ovv H locs ls hm hk hmm hq2 hP hD hS hl
              have hmb : mm < 256 := by rcases hmm with ⟨_, z⟩ | ⟨_, z⟩; exact z ▸ b8_lt _; omega
              refine lv_iload hx hb d_Vw_markOver_71 (lv_at hl 5 rfl) ?_
              refine lv_iload hx hb d_Vw_markOver_73 (lv_at hl 4 rfl) ?_
              refine lv_icmp_ge (tgt := 110) hx hb d_Vw_markOver_75 (by decide) (fun c_75 => ?_) (fun c_75 => ?_)
              · have n_75 : mm ≤ k := (nI_leI (a := mm) (b := k) (by omega) (by omega)).mp c_75
                refine lv_iinc (v := nI (S.FC pp + j + 1)) (lv' := [(2, .int (nI (S.FC pp + j + 1))), (0, .ref h), (1, .int (nI pp)), (3, .int (nI (S.CA (S.FC pp + j)))), (4, .int (nI mm)), (5, .int (nI k))]) hx hb d_Vw_markOver_110 hl (k := 2) rfl (by exact nI_add _ _) (by decide) rfl (fun ls hl => ?_)
                refine lv_goto (tgt := 10) hx hb d_Vw_markOver_113 (by decide) ?_
                exact ih_10 (j + 1) ovv _ _ _ (by omega) (by omega) (hq2.iff (ovN_step hmm (by omega))) hP hD hS (lv_sub hl [1, 2, 0] rfl)
              · have n_75 : k < mm := Nat.lt_of_not_le (fun z => c_75 ((nI_leI (a := mm) (b := k) (by omega) (by omega)).mpr z))
                have hk1 : S.f (S.CA (S.FC pp + j)) = 1 := hmm.elim (fun z => z.1) (fun z => absurd n_75 (by have := z.2; omega))
                have hmM : mm = (b8 (S.f (S.CA (S.FC pp + j) + 5))) := hmm.elim (fun z => z.2) (fun z => absurd hk1 z.1)
                have hcw2 := hcw.2.1 hk1
                refine lv_aload_n hx hb d_Vw_markOver_78 rfl (lv_at hl 0 rfl) ?_
                refine va_get (D := (dC, dI)) (ci := 11) (v := .ref ovA) (C := R_Vw) (T := F_Vw) (N := 14) hx hb hts i_Vw hown hK hP 0 rfl rfl 9 (by decide) (hts _ gw_334) (fun _ h9 => h9) rfl d_Vw_markOver_79 ?_
                refine lv_aload_n hx hb d_Vw_markOver_82 rfl (lv_at hl 0 rfl) ?_
                refine va_get (D := (dC, dI)) (ci := 11) (v := .ref sk) (C := R_Vw) (T := F_Vw) (N := 14) hx hb hts i_Vw hown hK hP 0 rfl rfl 5 (by decide) (hts _ gw_330) (fun _ h9 => h9) rfl d_Vw_markOver_83 ?_
                refine lv_iload_n hx hb d_Vw_markOver_86 rfl (lv_at hl 1 rfl) ?_
                refine lv_iload_n hx hb d_Vw_markOver_87 rfl (lv_at hl 3 rfl) ?_
                refine lv_bipush (v := 6) hx hb d_Vw_markOver_88 (by decide) ?_
                refine lv_iadd hx hb d_Vw_markOver_90 ?_
                refine lv_topi (fun x_10 ex_10 => ?_)
                obtain rfl : x_10 = nI ((S.CA (S.FC pp + j)) + 6) := by rw [ex_10]; first | done | (exact nI_add _ _)
                refine lv_iconst (v := 4) hx hb d_Vw_markOver_91 (by decide) ?_
                refine lv_iload hx hb d_Vw_markOver_92 (lv_at hl 5 rfl) ?_
                refine lv_imul hx hb d_Vw_markOver_94 ?_
                refine lv_topi (fun x_11 ex_11 => ?_)
                obtain rfl : x_11 = nI (4 * k) := by rw [ex_11]; first | done | (exact nI_mul _ _)
                refine lv_iadd hx hb d_Vw_markOver_95 ?_
                refine lv_topi (fun x_12 ex_12 => ?_)
                obtain rfl : x_12 = nI (((S.CA (S.FC pp + j)) + 6) + (4 * k)) := by rw [ex_12]; first | done | (exact nI_add _ _)
                obtain ⟨xx, hxk, hxl, hxn, hxf⟩ := I.ref hp9 (by omega) hk1 (by omega : k < (b8 (S.f (S.CA (S.FC pp + j) + 5))))
                obtain ⟨ow1, ow2, ow3⟩ := cnR.own (fdf := Z.fd) (dpf := Z.dp) (D0 := S.FD pp) (by omega) (R.fd pp (by omega)) (by omega) hgD (show cnR S.f (S.dp pp) S.FC pp (S.nd pp) (S.FC pp + j) (S.CA (S.FC pp + j) + 6 + 4 * k) xx from hxk)
                have hPc := hP.sub (ws' := [(sk, .inr (9, [.ref b_y, sk_from, .ref fdA, .ref fcA, .ref dpA, sk_hashes, sk_byHash, sk_leansOn, sk_leantBy, .ref ch, sk_lines, sk_patches])), (b_y, .inl (cB, 290000, .inl S.f)), (fdA, .inl (cI, 502, .inl Z.fd)), (dpA, .inl (cI, 8400, .inl Z.dp)), (fcA, .inl (cI, 502, .inl Z.fc))]) [1, 2, 3, 4, 5] rfl
                have hDc := hD.sub (ws' := [(sk, .inr (9, [.ref b_y, sk_from, .ref fdA, .ref fcA, .ref dpA, sk_hashes, sk_byHash, sk_leansOn, sk_leantBy, .ref ch, sk_lines, sk_patches])), (b_y, .inl (cB, 290000, .inl S.f)), (fdA, .inl (cI, 502, .inl Z.fd)), (dpA, .inl (cI, 8400, .inl Z.dp)), (fcA, .inl (cI, 502, .inl Z.fc))]) [1, 2, 3, 4, 5] (by decide) rfl
                have hFc := va_free (wc := [(sk, .inr (9, [.ref b_y, sk_from, .ref fdA, .ref fcA, .ref dpA, sk_hashes, sk_byHash, sk_leansOn, sk_leantBy, .ref ch, sk_lines, sk_patches])), (b_y, .inl (cB, 290000, .inl S.f)), (fdA, .inl (cI, 502, .inl Z.fd)), (dpA, .inl (cI, 8400, .inl Z.dp)), (fcA, .inl (cI, 502, .inl Z.fc))]) hD hS hA [1, 2, 3, 4, 5] rfl
                refine va_calli (va_runV (As := [.int (nI pp), .int (nI (((S.CA (S.FC pp + j)) + 6) + (4 * k)))]) (rest := [.ref ovA]) ⟨hx, hb, hml, hown, hts⟩ (m_St_changeNamed l dC dI cI cB cL cZ cR sk b_y fdA dpA fcA (sk_from) (sk_hashes) (sk_byHash) (sk_leansOn) (sk_leantBy) (.ref ch) (sk_lines) (sk_patches) S.f Z.fd Z.dp Z.fc pp (S.CA (S.FC pp + j) + 6 + 4 * k) (owN S.f (S.dp pp) pp (S.CA (S.FC pp + j) + 6 + 4 * k)) (S.FC (owN S.f (S.dp pp) pp (S.CA (S.FC pp + j) + 6 + 4 * k))) H.size (by omega) (by omega) ow1 (by omega) (R.fc _ (by omega))) (cwV 2 hts (xg_V gw_1005 gw_932 gw_933 gw_3 gw_934) rfl rfl rfl (by decide +kernel) ⟨Nat.le_of_ble_eq_true rfl, Nat.le_of_ble_eq_true rfl⟩) ⟨xw_blind, va_recv hK hPc (ci := 9) (q0 := 0) rfl rfl, fun U hU hW => ⟨rfl, by rw [hU], by rw [hU]; exact hPc, va_K.moved hW.alike hK, hDc.weaken (fun _ _ _ _ => trivial)⟩⟩ rfl rfl hl.1 rfl (lv_room (Nat.le_of_ble_eq_true rfl)) d_Vw_markOver_96 ⟨Nat.le_of_ble_eq_true rfl, Nat.le_of_ble_eq_true rfl⟩) hS (fun q _ h => hFc q h) hFc (fun r9 u t H1 locs ht hvm hw hB hz1 hk1 hS => ?_)
                obtain ⟨hP1, hK1, hD1⟩ := hB
                rw [ht] at hP1
                obtain ⟨hP, hD⟩ := va_join (wr := [(h, .inr (11, [vw_files, vw_namingsOf, vw_namings, vw_fileTotal, vw_namingTotal, .ref sk, .ref ch, vw_loaded, vw_version, .ref ovA, .int (nI rd), vw_heads, vw_nexts, vw_sharing])), (ch, .inr (1, [.ref cat, ch_patch, ch_file, ch_firstLine, ch_adds, ch_files])), (cat, .inl (cI, 38000, .inl Z.ca)), (ovA, .inl (cI, 38000, .inl ovv))]) (w1 := [(sk, .inr (9, [.ref b_y, sk_from, .ref fdA, .ref fcA, .ref dpA, sk_hashes, sk_byHash, sk_leansOn, sk_leantBy, .ref ch, sk_lines, sk_patches])), (b_y, .inl (cB, 290000, .inl S.f)), (fdA, .inl (cI, 502, .inl Z.fd)), (dpA, .inl (cI, 8400, .inl Z.dp)), (fcA, .inl (cI, 502, .inl Z.fc))]) hP hD [1, 2, 3, 4, 5] [0, 6, 7, 8] rfl rfl (by decide) (by decide) hk1 hFc hP1 hD1
                generalize H1 = H at hP hS ⊢
                have hP : va_P (dC, dI) classes [(h, .inr (11, [vw_files, vw_namingsOf, vw_namings, vw_fileTotal, vw_namingTotal, .ref sk, .ref ch, vw_loaded, vw_version, .ref ovA, .int (nI rd), vw_heads, vw_nexts, vw_sharing])), (ch, .inr (1, [.ref cat, ch_patch, ch_file, ch_firstLine, ch_adds, ch_files])), (cat, .inl (cI, 38000, .inl Z.ca)), (ovA, .inl (cI, 38000, .inl ovv)), (sk, .inr (9, [.ref b_y, sk_from, .ref fdA, .ref fcA, .ref dpA, sk_hashes, sk_byHash, sk_leansOn, sk_leantBy, .ref ch, sk_lines, sk_patches])), (b_y, .inl (cB, 290000, .inl S.f)), (fdA, .inl (cI, 502, .inl Z.fd)), (dpA, .inl (cI, 8400, .inl Z.dp)), (fcA, .inl (cI, 502, .inl Z.fc))] H := hP
                have hD : va_D A [(h, .inr (11, [vw_files, vw_namingsOf, vw_namings, vw_fileTotal, vw_namingTotal, .ref sk, .ref ch, vw_loaded, vw_version, .ref ovA, .int (nI rd), vw_heads, vw_nexts, vw_sharing])), (ch, .inr (1, [.ref cat, ch_patch, ch_file, ch_firstLine, ch_adds, ch_files])), (cat, .inl (cI, 38000, .inl Z.ca)), (ovA, .inl (cI, 38000, .inl ovv)), (sk, .inr (9, [.ref b_y, sk_from, .ref fdA, .ref fcA, .ref dpA, sk_hashes, sk_byHash, sk_leansOn, sk_leantBy, .ref ch, sk_lines, sk_patches])), (b_y, .inl (cB, 290000, .inl S.f)), (fdA, .inl (cI, 502, .inl Z.fd)), (dpA, .inl (cI, 8400, .inl Z.dp)), (fcA, .inl (cI, 502, .inl Z.fc))] := hD
                obtain rfl : r9 = nI xx := hw.trans (congrArg nI ow3.symm)
                refine lv_aload_n hx hb d_Vw_markOver_99 rfl (lv_at hl 0 rfl) ?_
                refine va_get (D := (dC, dI)) (ci := 11) (v := .int (nI rd)) (C := R_Vw) (T := F_Vw) (N := 14) hx hb hts i_Vw hown hK hP 0 rfl rfl 10 (by decide) (hts _ gw_335) (fun _ h9 => h9) rfl d_Vw_markOver_100 ?_
                refine va_iast hx hb hK hP hD hS 3 0 rfl rfl (vp_in_nI (by omega) (by omega)) d_Vw_markOver_103 (fun H locs hP hD hS => ?_)
                rw [show (nI xx).toNatClampNeg = xx from nI_clamp (by omega)] at hP hD
                have hP : va_P (dC, dI) classes [(h, .inr (11, [vw_files, vw_namingsOf, vw_namings, vw_fileTotal, vw_namingTotal, .ref sk, .ref ch, vw_loaded, vw_version, .ref ovA, .int (nI rd), vw_heads, vw_nexts, vw_sharing])), (ch, .inr (1, [.ref cat, ch_patch, ch_file, ch_firstLine, ch_adds, ch_files])), (cat, .inl (cI, 38000, .inl Z.ca)), (ovA, .inl (cI, 38000, .inl (upd ovv xx (nI rd)))), (sk, .inr (9, [.ref b_y, sk_from, .ref fdA, .ref fcA, .ref dpA, sk_hashes, sk_byHash, sk_leansOn, sk_leantBy, .ref ch, sk_lines, sk_patches])), (b_y, .inl (cB, 290000, .inl S.f)), (fdA, .inl (cI, 502, .inl Z.fd)), (dpA, .inl (cI, 8400, .inl Z.dp)), (fcA, .inl (cI, 502, .inl Z.fc))] H := hP
                have hD : va_D A [(h, .inr (11, [vw_files, vw_namingsOf, vw_namings, vw_fileTotal, vw_namingTotal, .ref sk, .ref ch, vw_loaded, vw_version, .ref ovA, .int (nI rd), vw_heads, vw_nexts, vw_sharing])), (ch, .inr (1, [.ref cat, ch_patch, ch_file, ch_firstLine, ch_adds, ch_files])), (cat, .inl (cI, 38000, .inl Z.ca)), (ovA, .inl (cI, 38000, .inl (upd ovv xx (nI rd)))), (sk, .inr (9, [.ref b_y, sk_from, .ref fdA, .ref fcA, .ref dpA, sk_hashes, sk_byHash, sk_leansOn, sk_leantBy, .ref ch, sk_lines, sk_patches])), (b_y, .inl (cB, 290000, .inl S.f)), (fdA, .inl (cI, 502, .inl Z.fd)), (dpA, .inl (cI, 8400, .inl Z.dp)), (fcA, .inl (cI, 502, .inl Z.fc))] := hD
                refine lv_iinc (v := nI (k + 1)) (lv' := [(5, .int (nI (k + 1))), (0, .ref h), (1, .int (nI pp)), (2, .int (nI (S.FC pp + j))), (3, .int (nI (S.CA (S.FC pp + j)))), (4, .int (nI mm))]) hx hb d_Vw_markOver_104 hl (k := 5) rfl (by exact nI_add _ _) (by decide) rfl (fun ls hl => ?_)
                refine lv_goto (tgt := 71) hx hb d_Vw_markOver_107 (by decide) ?_
                exact ih_71 (k + 1) mm (upd ovv xx (nI rd)) _ _ _ (by omega) (by omega) (hmm) (hq2.upd (fun x => by rw [ovJ_step hnd5 hxk x]; exact or_assoc.symm)) (hP.sub [0, 4, 5, 6, 7, 8, 1, 2, 3] rfl) (hD.sub [0, 4, 5, 6, 7, 8, 1, 2, 3] (by decide) rfl) hS (lv_sub hl [1, 2, 3, 4, 5, 0] rfl)
          exact loop_71 _ 0 (b8 (S.f (S.CA (S.FC pp + j) + 5))) ovu _ _ _ (Nat.lt_succ_self _) (Nat.zero_le _) (Or.inl ⟨c_44, rfl⟩) (hq1.iff ovJ_0) (hP.sub [0, 5, 6, 1, 2, 3, 7, 8, 4] rfl) (hD.sub [0, 5, 6, 1, 2, 3, 7, 8, 4] (by decide) rfl) hS (lv_sub hl [3, 4, 5, 2, 1, 0] rfl)
  exact loop_10 _ 0 ov _ _ _ (Nat.lt_succ_self _) (Nat.zero_le _) (setR.nil (fun x ⟨q, a, _⟩ => absurd a (Nat.not_lt_zero _))) hP hD hS (lv_sub hl [1, 2, 0] rfl)
