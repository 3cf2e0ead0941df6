/-! 99zx.split.lean.txt -/
theorem gw_1910 : (Jvm.Cond.methodLink "PatchStoreModel" (454 : Nat) ({ cls := "java/lang/Math", name := "min", desc := "(II)I" } : Jvm.MethodName)) ∈ xg_1 := xg_s8 230 rfl rfl
def y_Md_split : MethodName := ⟨"PatchStoreModel", "split", "()I"⟩
abbrev c_Md_split : Cond := (Jvm.Cond.code ({ cls := "PatchStoreModel", name := "split", desc := "()I" } : Jvm.MethodName) prog_14_method_58_code (5 : Nat) (Option.some Jvm.ClassFile.FieldType.int))
abbrev ws_Md_split : List Cond := c_Md_split :: xg_1
theorem d_Md_split_0 : decode prog_14_method_58_code 0 = .ok (.aload_n 0, 1) := by decide +kernel
theorem d_Md_split_1 : decode prog_14_method_58_code 1 = .ok (.iconst 0, 1) := by decide +kernel
theorem d_Md_split_2 : decode prog_14_method_58_code 2 = .ok (.putfield 256, 3) := by decide +kernel
theorem d_Md_split_5 : decode prog_14_method_58_code 5 = .ok (.iconst 0, 1) := by decide +kernel
theorem d_Md_split_6 : decode prog_14_method_58_code 6 = .ok (.istore_n 1, 1) := by decide +kernel
theorem d_Md_split_7 : decode prog_14_method_58_code 7 = .ok (.iconst 0, 1) := by decide +kernel
theorem d_Md_split_8 : decode prog_14_method_58_code 8 = .ok (.istore_n 2, 1) := by decide +kernel
theorem d_Md_split_9 : decode prog_14_method_58_code 9 = .ok (.iconst 0, 1) := by decide +kernel
theorem d_Md_split_10 : decode prog_14_method_58_code 10 = .ok (.istore_n 3, 1) := by decide +kernel
theorem d_Md_split_11 : decode prog_14_method_58_code 11 = .ok (.iconst 0, 1) := by decide +kernel
theorem d_Md_split_12 : decode prog_14_method_58_code 12 = .ok (.istore 4, 2) := by decide +kernel
theorem d_Md_split_14 : decode prog_14_method_58_code 14 = .ok (.iload 4, 2) := by decide +kernel
theorem d_Md_split_16 : decode prog_14_method_58_code 16 = .ok (.aload_n 0, 1) := by decide +kernel
theorem d_Md_split_17 : decode prog_14_method_58_code 17 = .ok (.getfield 14, 3) := by decide +kernel
theorem d_Md_split_20 : decode prog_14_method_58_code 20 = .ok (.if_icmp .ge 83, 3) := by decide +kernel
theorem d_Md_split_23 : decode prog_14_method_58_code 23 = .ok (.aload_n 0, 1) := by decide +kernel
theorem d_Md_split_24 : decode prog_14_method_58_code 24 = .ok (.getfield 8, 3) := by decide +kernel
theorem d_Md_split_27 : decode prog_14_method_58_code 27 = .ok (.iload 4, 2) := by decide +kernel
theorem d_Md_split_29 : decode prog_14_method_58_code 29 = .ok (.baload, 1) := by decide +kernel
theorem d_Md_split_30 : decode prog_14_method_58_code 30 = .ok (.bipush 10, 2) := by decide +kernel
theorem d_Md_split_32 : decode prog_14_method_58_code 32 = .ok (.if_icmp .eq 17, 3) := by decide +kernel
theorem d_Md_split_35 : decode prog_14_method_58_code 35 = .ok (.iload 4, 2) := by decide +kernel
theorem d_Md_split_37 : decode prog_14_method_58_code 37 = .ok (.aload_n 0, 1) := by decide +kernel
theorem d_Md_split_38 : decode prog_14_method_58_code 38 = .ok (.getfield 14, 3) := by decide +kernel
theorem d_Md_split_41 : decode prog_14_method_58_code 41 = .ok (.iconst 1, 1) := by decide +kernel
theorem d_Md_split_42 : decode prog_14_method_58_code 42 = .ok (.isub, 1) := by decide +kernel
theorem d_Md_split_43 : decode prog_14_method_58_code 43 = .ok (.if_icmp .ge 6, 3) := by decide +kernel
theorem d_Md_split_46 : decode prog_14_method_58_code 46 = .ok (.goto 51, 3) := by decide +kernel
theorem d_Md_split_49 : decode prog_14_method_58_code 49 = .ok (.iload 4, 2) := by decide +kernel
theorem d_Md_split_51 : decode prog_14_method_58_code 51 = .ok (.iconst 1, 1) := by decide +kernel
theorem d_Md_split_52 : decode prog_14_method_58_code 52 = .ok (.iadd, 1) := by decide +kernel
theorem d_Md_split_53 : decode prog_14_method_58_code 53 = .ok (.iload_n 3, 1) := by decide +kernel
theorem d_Md_split_54 : decode prog_14_method_58_code 54 = .ok (.isub, 1) := by decide +kernel
theorem d_Md_split_55 : decode prog_14_method_58_code 55 = .ok (.sipush 500, 3) := by decide +kernel
theorem d_Md_split_58 : decode prog_14_method_58_code 58 = .ok (.if_icmp .le 5, 3) := by decide +kernel
theorem d_Md_split_61 : decode prog_14_method_58_code 61 = .ok (.iconst 1, 1) := by decide +kernel
theorem d_Md_split_62 : decode prog_14_method_58_code 62 = .ok (.istore_n 2, 1) := by decide +kernel
theorem d_Md_split_63 : decode prog_14_method_58_code 63 = .ok (.iload_n 1, 1) := by decide +kernel
theorem d_Md_split_64 : decode prog_14_method_58_code 64 = .ok (.sipush 200, 3) := by decide +kernel
theorem d_Md_split_67 : decode prog_14_method_58_code 67 = .ok (.if_icmp .ge 22, 3) := by decide +kernel
theorem d_Md_split_70 : decode prog_14_method_58_code 70 = .ok (.aload_n 0, 1) := by decide +kernel
theorem d_Md_split_71 : decode prog_14_method_58_code 71 = .ok (.getfield 250, 3) := by decide +kernel
theorem d_Md_split_74 : decode prog_14_method_58_code 74 = .ok (.iload_n 1, 1) := by decide +kernel
theorem d_Md_split_75 : decode prog_14_method_58_code 75 = .ok (.iload_n 3, 1) := by decide +kernel
theorem d_Md_split_76 : decode prog_14_method_58_code 76 = .ok (.iastore, 1) := by decide +kernel
theorem d_Md_split_77 : decode prog_14_method_58_code 77 = .ok (.aload_n 0, 1) := by decide +kernel
theorem d_Md_split_78 : decode prog_14_method_58_code 78 = .ok (.getfield 253, 3) := by decide +kernel
theorem d_Md_split_81 : decode prog_14_method_58_code 81 = .ok (.iload_n 1, 1) := by decide +kernel
theorem d_Md_split_82 : decode prog_14_method_58_code 82 = .ok (.iload 4, 2) := by decide +kernel
theorem d_Md_split_84 : decode prog_14_method_58_code 84 = .ok (.iconst 1, 1) := by decide +kernel
theorem d_Md_split_85 : decode prog_14_method_58_code 85 = .ok (.iadd, 1) := by decide +kernel
theorem d_Md_split_86 : decode prog_14_method_58_code 86 = .ok (.iload_n 3, 1) := by decide +kernel
theorem d_Md_split_87 : decode prog_14_method_58_code 87 = .ok (.isub, 1) := by decide +kernel
theorem d_Md_split_88 : decode prog_14_method_58_code 88 = .ok (.iastore, 1) := by decide +kernel
theorem d_Md_split_89 : decode prog_14_method_58_code 89 = .ok (.iinc 1 1, 3) := by decide +kernel
theorem d_Md_split_92 : decode prog_14_method_58_code 92 = .ok (.iload 4, 2) := by decide +kernel
theorem d_Md_split_94 : decode prog_14_method_58_code 94 = .ok (.iconst 1, 1) := by decide +kernel
theorem d_Md_split_95 : decode prog_14_method_58_code 95 = .ok (.iadd, 1) := by decide +kernel
theorem d_Md_split_96 : decode prog_14_method_58_code 96 = .ok (.istore_n 3, 1) := by decide +kernel
theorem d_Md_split_97 : decode prog_14_method_58_code 97 = .ok (.iinc 4 1, 3) := by decide +kernel
theorem d_Md_split_100 : decode prog_14_method_58_code 100 = .ok (.goto (-86), 3) := by decide +kernel
theorem d_Md_split_103 : decode prog_14_method_58_code 103 = .ok (.aload_n 0, 1) := by decide +kernel
theorem d_Md_split_104 : decode prog_14_method_58_code 104 = .ok (.iload_n 1, 1) := by decide +kernel
theorem d_Md_split_105 : decode prog_14_method_58_code 105 = .ok (.sipush 200, 3) := by decide +kernel
theorem d_Md_split_108 : decode prog_14_method_58_code 108 = .ok (.invokestatic 454, 3) := by decide +kernel
theorem d_Md_split_111 : decode prog_14_method_58_code 111 = .ok (.putfield 256, 3) := by decide +kernel
theorem d_Md_split_114 : decode prog_14_method_58_code 114 = .ok (.iload_n 2, 1) := by decide +kernel
theorem d_Md_split_115 : decode prog_14_method_58_code 115 = .ok (.ifCond .eq 7, 3) := by decide +kernel
theorem d_Md_split_118 : decode prog_14_method_58_code 118 = .ok (.iconst 1, 1) := by decide +kernel
theorem d_Md_split_119 : decode prog_14_method_58_code 119 = .ok (.goto 15, 3) := by decide +kernel
theorem d_Md_split_122 : decode prog_14_method_58_code 122 = .ok (.iload_n 1, 1) := by decide +kernel
theorem d_Md_split_123 : decode prog_14_method_58_code 123 = .ok (.sipush 200, 3) := by decide +kernel
theorem d_Md_split_126 : decode prog_14_method_58_code 126 = .ok (.if_icmp .le 7, 3) := by decide +kernel
theorem d_Md_split_129 : decode prog_14_method_58_code 129 = .ok (.iconst 2, 1) := by decide +kernel
theorem d_Md_split_130 : decode prog_14_method_58_code 130 = .ok (.goto 4, 3) := by decide +kernel
theorem d_Md_split_133 : decode prog_14_method_58_code 133 = .ok (.iconst 0, 1) := by decide +kernel
theorem d_Md_split_134 : decode prog_14_method_58_code 134 = .ok (.ireturn, 1) := by decide +kernel
theorem lg_no {lg : Int32} {Pl : List (Nat × Nat)} {w : Nat × Nat} (h : flg lg (∃ x, x ∈ Pl ∧ 500 < x.2)) (hw : w.2 ≤ 500) : flg lg (∃ x, x ∈ Pl ++ [w] ∧ 500 < x.2) := h.iff ⟨fun ⟨x, z1, z2⟩ => ⟨x, List.mem_append_left _ z1, z2⟩, fun ⟨x, z1, z2⟩ => by
  rcases List.mem_append.mp z1 with y | y
  · exact ⟨x, y, z2⟩
  · rw [List.mem_singleton.mp y] at z2; omega⟩
theorem lg_yes {Pl : List (Nat × Nat)} {w : Nat × Nat} (hw : 500 < w.2) : flg 1 (∃ x, x ∈ Pl ++ [w] ∧ 500 < x.2) := flg.set ⟨w, List.mem_append_right _ (List.mem_singleton.mpr rfl), hw⟩
theorem spR.pushF {na nl : Nat → Int32} {T : List (Nat × Nat)} {a b n : Nat} (h : spR na nl T) (hn : n = T.length) : spR (upd na n (nI a)) (upd nl n (nI b)) (T ++ [(a, b)]) := by
  rw [hn]; exact h.push
set_option maxHeartbeats 4000000 in
set_option maxRecDepth 100000 in
/-- the tape is cut into lines -/
theorem m_Md_split (l : Launch) (dC : Nat → ClassId) (dI : Nat → Nat → Nat) (cI cB cL cZ cR : ClassId) (md tp nwM nzM : Nat) (md_thrown md_fault md_bytes md_used md_at md_length md_depAt md_firstChange md_hashes md_deps md_patches md_sort md_of md_fileOf md_one md_two md_nameAt md_nameSize md_overAt md_overCount md_lineAt md_lineCount md_changes md_overs md_overTotal md_lineChange md_textAt md_textSize md_lines md_fileChange md_fileLines md_files md_sets md_stamp md_digest md_in md_pos md_stop md_wrong md_dep md_named md_depCount md_own md_refFile md_full md_h md_counts md_marked md_namings md_namingCount md_listed md_listedCount md_listedStamp md_member md_text md_place md_dead md_edge md_way md_members md_textLines md_unsure md_workedRepository md_workedFile md_workedStamp md_stack md_before md_left md_made md_madeSize md_need md_needs md_news md_common md_keptAs md_isNew md_keptFrom md_stateOf md_rising : Value) (tf nw nz : Nat → Int32) (tn : Nat) (sz : Nat) (htn : tn ≤ 65536) : Met l y_Md_split ws_Md_split ({ frames := 1, cells := 0, slots := 0, locals := 60 }) (xw_Pc dC dI [(cI, .int), (cB, .byte), (cL, .long), (cZ, .boolean), (cR, .object "PatchStore$Repository")] [.ref md] [(md, .inr (12, [.ref tp, .int (nI tn), md_thrown, md_fault, md_bytes, md_used, md_at, md_length, md_depAt, md_firstChange, md_hashes, md_deps, md_patches, md_sort, md_of, md_fileOf, md_one, md_two, md_nameAt, md_nameSize, md_overAt, md_overCount, md_lineAt, md_lineCount, md_changes, md_overs, md_overTotal, md_lineChange, md_textAt, md_textSize, md_lines, md_fileChange, md_fileLines, md_files, md_sets, md_stamp, md_digest, md_in, md_pos, md_stop, md_wrong, md_dep, md_named, md_depCount, md_own, md_refFile, md_full, md_h, md_counts, md_marked, md_namings, md_namingCount, md_listed, md_listedCount, md_listedStamp, md_member, md_text, md_place, md_dead, md_edge, md_way, md_members, md_textLines, md_unsure, md_workedRepository, md_workedFile, md_workedStamp, md_stack, md_before, md_left, md_made, md_madeSize, md_need, md_needs, .ref nwM, .ref nzM, md_news, md_common, md_keptAs, md_isNew, md_keptFrom, md_stateOf, md_rising])), (tp, .inl (cB, 65536, .inl tf)), (nwM, .inl (cI, 201, .inl nw)), (nzM, .inl (cI, 201, .inl nz))] sz) (va_Qi (fun (r : Int32) (u : (Nat → Int32) × (Nat → Int32) × Nat) => ((r = 1 ∧ (∃ x, x ∈ (spT tf tn tn) ∧ 500 < x.2)) ∨ (r = 2 ∧ ¬ (∃ x, x ∈ (spT tf tn tn) ∧ 500 < x.2) ∧ 200 < (spT tf tn tn).length) ∨ (r = 0 ∧ ¬ (∃ x, x ∈ (spT tf tn tn) ∧ 500 < x.2) ∧ (spT tf tn tn).length ≤ 200)) ∧ spR u.1 u.2.1 (spT tf tn tn) ∧ u.2.2 = min (spT tf tn tn).length 200) (fun u t => xw_B dC dI [(cI, .int), (cB, .byte), (cL, .long), (cZ, .boolean), (cR, .object "PatchStore$Repository")] (va_A [(md, .inr (12, [.ref tp, .int (nI tn), md_thrown, md_fault, md_bytes, md_used, md_at, md_length, md_depAt, md_firstChange, md_hashes, md_deps, md_patches, md_sort, md_of, md_fileOf, md_one, md_two, md_nameAt, md_nameSize, md_overAt, md_overCount, md_lineAt, md_lineCount, md_changes, md_overs, md_overTotal, md_lineChange, md_textAt, md_textSize, md_lines, md_fileChange, md_fileLines, md_files, md_sets, md_stamp, md_digest, md_in, md_pos, md_stop, md_wrong, md_dep, md_named, md_depCount, md_own, md_refFile, md_full, md_h, md_counts, md_marked, md_namings, md_namingCount, md_listed, md_listedCount, md_listedStamp, md_member, md_text, md_place, md_dead, md_edge, md_way, md_members, md_textLines, md_unsure, md_workedRepository, md_workedFile, md_workedStamp, md_stack, md_before, md_left, md_made, md_madeSize, md_need, md_needs, .ref nwM, .ref nzM, md_news, md_common, md_keptAs, md_isNew, md_keptFrom, md_stateOf, md_rising])), (tp, .inl (cB, 65536, .inl tf)), (nwM, .inl (cI, 201, .inl nw)), (nzM, .inl (cI, 201, .inl nz))] sz) [(md, .inr (12, [.ref tp, .int (nI tn), md_thrown, md_fault, md_bytes, md_used, md_at, md_length, md_depAt, md_firstChange, md_hashes, md_deps, md_patches, md_sort, md_of, md_fileOf, md_one, md_two, md_nameAt, md_nameSize, md_overAt, md_overCount, md_lineAt, md_lineCount, md_changes, md_overs, md_overTotal, md_lineChange, md_textAt, md_textSize, md_lines, md_fileChange, md_fileLines, md_files, md_sets, md_stamp, md_digest, md_in, md_pos, md_stop, md_wrong, md_dep, md_named, md_depCount, md_own, md_refFile, md_full, md_h, md_counts, md_marked, md_namings, md_namingCount, md_listed, md_listedCount, md_listedStamp, md_member, md_text, md_place, md_dead, md_edge, md_way, md_members, md_textLines, md_unsure, md_workedRepository, md_workedFile, md_workedStamp, md_stack, md_before, md_left, md_made, md_madeSize, md_need, md_needs, .ref nwM, .ref nzM, .int (nI u.2.2), md_common, md_keptAs, md_isNew, md_keptFrom, md_stateOf, md_rising])), (tp, .inl (cB, 65536, .inl tf)), (nwM, .inl (cI, 201, .inl u.1)), (nzM, .inl (cI, 201, .inl u.2.1))] t) (va_A [(md, .inr (12, [.ref tp, .int (nI tn), md_thrown, md_fault, md_bytes, md_used, md_at, md_length, md_depAt, md_firstChange, md_hashes, md_deps, md_patches, md_sort, md_of, md_fileOf, md_one, md_two, md_nameAt, md_nameSize, md_overAt, md_overCount, md_lineAt, md_lineCount, md_changes, md_overs, md_overTotal, md_lineChange, md_textAt, md_textSize, md_lines, md_fileChange, md_fileLines, md_files, md_sets, md_stamp, md_digest, md_in, md_pos, md_stop, md_wrong, md_dep, md_named, md_depCount, md_own, md_refFile, md_full, md_h, md_counts, md_marked, md_namings, md_namingCount, md_listed, md_listedCount, md_listedStamp, md_member, md_text, md_place, md_dead, md_edge, md_way, md_members, md_textLines, md_unsure, md_workedRepository, md_workedFile, md_workedStamp, md_stack, md_before, md_left, md_made, md_madeSize, md_need, md_needs, .ref nwM, .ref nzM, md_news, md_common, md_keptAs, md_isNew, md_keptFrom, md_stateOf, md_rising])), (tp, .inl (cB, 65536, .inl tf)), (nwM, .inl (cI, 201, .inl nw)), (nzM, .inl (cI, 201, .inl nz))] sz)) 0 0 (va_A [(md, .inr (12, [.ref tp, .int (nI tn), md_thrown, md_fault, md_bytes, md_used, md_at, md_length, md_depAt, md_firstChange, md_hashes, md_deps, md_patches, md_sort, md_of, md_fileOf, md_one, md_two, md_nameAt, md_nameSize, md_overAt, md_overCount, md_lineAt, md_lineCount, md_changes, md_overs, md_overTotal, md_lineChange, md_textAt, md_textSize, md_lines, md_fileChange, md_fileLines, md_files, md_sets, md_stamp, md_digest, md_in, md_pos, md_stop, md_wrong, md_dep, md_named, md_depCount, md_own, md_refFile, md_full, md_h, md_counts, md_marked, md_namings, md_namingCount, md_listed, md_listedCount, md_listedStamp, md_member, md_text, md_place, md_dead, md_edge, md_way, md_members, md_textLines, md_unsure, md_workedRepository, md_workedFile, md_workedStamp, md_stack, md_before, md_left, md_made, md_madeSize, md_need, md_needs, .ref nwM, .ref nzM, md_news, md_common, md_keptAs, md_isNew, md_keptFrom, md_stateOf, md_rising])), (tp, .inl (cB, 65536, .inl tf)), (nwM, .inl (cI, 201, .inl nw)), (nzM, .inl (cI, 201, .inl nz))] sz) := by
  refine Met.ofW (cc := prog_14_method_58_code) (maxL := 5) (ret := (Option.some Jvm.ClassFile.FieldType.int)) (by decide) rfl ?_
  intro p e s m args below meth c s₁ B hml hv
  obtain ⟨rfl, hsz, hP, hK, hD0⟩ := hv
  have hx := B.exec
  have hb := B.bytes
  have hr := B.returns
  have hts0 := atoms_spec (ws := ws_Md_split) B.pre
  have hts : ∀ w ∈ xg_1, w.before _ s = true := fun w h => hts0 w (List.mem_cons_of_mem _ h)
  have hown : s.vm.findClass "PatchStoreModel" = some m.cls := findClass_of_methodNamed B.named
  have hlocks := B.notSynchronized
  subst hsz
  have hD := hD0.self (sz := s.heap.size)
  generalize hAe : va_A [(md, .inr (12, [.ref tp, .int (nI tn), md_thrown, md_fault, md_bytes, md_used, md_at, md_length, md_depAt, md_firstChange, md_hashes, md_deps, md_patches, md_sort, md_of, md_fileOf, md_one, md_two, md_nameAt, md_nameSize, md_overAt, md_overCount, md_lineAt, md_lineCount, md_changes, md_overs, md_overTotal, md_lineChange, md_textAt, md_textSize, md_lines, md_fileChange, md_fileLines, md_files, md_sets, md_stamp, md_digest, md_in, md_pos, md_stop, md_wrong, md_dep, md_named, md_depCount, md_own, md_refFile, md_full, md_h, md_counts, md_marked, md_namings, md_namingCount, md_listed, md_listedCount, md_listedStamp, md_member, md_text, md_place, md_dead, md_edge, md_way, md_members, md_textLines, md_unsure, md_workedRepository, md_workedFile, md_workedStamp, md_stack, md_before, md_left, md_made, md_madeSize, md_need, md_needs, .ref nwM, .ref nzM, md_news, md_common, md_keptAs, md_isNew, md_keptFrom, md_stateOf, md_rising])), (tp, .inl (cB, 65536, .inl tf)), (nwM, .inl (cI, 201, .inl nw)), (nzM, .inl (cI, 201, .inl nz))] s.heap.size = A at hD ⊢
  have hA : ∀ q : Nat, s.heap.size ≤ q → A q := fun q h => by rw [← hAe]; exact Or.inr h
  have hS : va_S A s.heap s.heap [] := va_S.rf
  have hl := lv_entry ([.ref md]) (n := 5) (Nat.le_of_ble_eq_true rfl)
  rw [lg_entry_eq]
  generalize (lg_sl ([.ref md]) ++ List.replicate (5 - (lg_sl ([.ref md])).length) Slot.unset).toArray = ls at hl ⊢
  have hl : lv_has ls 5 [(0, .ref md)] := hl
  generalize hQe : MQ _ _ _ _ _ _ _ = Q
  refine lv_aload_n hx hb d_Md_split_0 rfl (lv_at hl 0 rfl) ?_
  refine lv_iconst (v := 0) hx hb d_Md_split_1 (by decide) ?_
  refine lv_topi (fun x_1 ex_1 => ?_)
  obtain rfl : x_1 = nI 0 := by rw [ex_1]; first | done | (exact rfl)
  refine va_put (D := (dC, dI)) (ci := 12) (v := .int (nI 0)) (ty := .int) (C := R_Md) (T := F_Md) (N := 83) hx hb hts i_Md t_Md t_Md_ok n_Md hown hK hP hD hS 0 rfl rfl 76 (by decide) (hts _ gw_1494) (fun _ h9 => h9) rfl (by decide +kernel) rfl rfl (Nat.le_of_ble_eq_true rfl) d_Md_split_2 (fun H locs hP hD hS => ?_)
  have hP : va_P (dC, dI) classes [(md, .inr (12, [.ref tp, .int (nI tn), md_thrown, md_fault, md_bytes, md_used, md_at, md_length, md_depAt, md_firstChange, md_hashes, md_deps, md_patches, md_sort, md_of, md_fileOf, md_one, md_two, md_nameAt, md_nameSize, md_overAt, md_overCount, md_lineAt, md_lineCount, md_changes, md_overs, md_overTotal, md_lineChange, md_textAt, md_textSize, md_lines, md_fileChange, md_fileLines, md_files, md_sets, md_stamp, md_digest, md_in, md_pos, md_stop, md_wrong, md_dep, md_named, md_depCount, md_own, md_refFile, md_full, md_h, md_counts, md_marked, md_namings, md_namingCount, md_listed, md_listedCount, md_listedStamp, md_member, md_text, md_place, md_dead, md_edge, md_way, md_members, md_textLines, md_unsure, md_workedRepository, md_workedFile, md_workedStamp, md_stack, md_before, md_left, md_made, md_madeSize, md_need, md_needs, .ref nwM, .ref nzM, .int (nI 0), md_common, md_keptAs, md_isNew, md_keptFrom, md_stateOf, md_rising])), (tp, .inl (cB, 65536, .inl tf)), (nwM, .inl (cI, 201, .inl nw)), (nzM, .inl (cI, 201, .inl nz))] H := hP
  have hD : va_D A [(md, .inr (12, [.ref tp, .int (nI tn), md_thrown, md_fault, md_bytes, md_used, md_at, md_length, md_depAt, md_firstChange, md_hashes, md_deps, md_patches, md_sort, md_of, md_fileOf, md_one, md_two, md_nameAt, md_nameSize, md_overAt, md_overCount, md_lineAt, md_lineCount, md_changes, md_overs, md_overTotal, md_lineChange, md_textAt, md_textSize, md_lines, md_fileChange, md_fileLines, md_files, md_sets, md_stamp, md_digest, md_in, md_pos, md_stop, md_wrong, md_dep, md_named, md_depCount, md_own, md_refFile, md_full, md_h, md_counts, md_marked, md_namings, md_namingCount, md_listed, md_listedCount, md_listedStamp, md_member, md_text, md_place, md_dead, md_edge, md_way, md_members, md_textLines, md_unsure, md_workedRepository, md_workedFile, md_workedStamp, md_stack, md_before, md_left, md_made, md_madeSize, md_need, md_needs, .ref nwM, .ref nzM, .int (nI 0), md_common, md_keptAs, md_isNew, md_keptFrom, md_stateOf, md_rising])), (tp, .inl (cB, 65536, .inl tf)), (nwM, .inl (cI, 201, .inl nw)), (nzM, .inl (cI, 201, .inl nz))] := hD
  refine lv_iconst (v := 0) hx hb d_Md_split_5 (by decide) ?_
  refine lv_topi (fun x_2 ex_2 => ?_)
  obtain rfl : x_2 = nI 0 := by rw [ex_2]; first | done | (exact rfl)
  refine lv_istore_n (lv' := [(1, .int (nI 0)), (0, .ref md)]) hx hb d_Md_split_6 rfl hl (by decide) rfl (fun ls hl => ?_)
  refine lv_iconst (v := 0) hx hb d_Md_split_7 (by decide) ?_
  refine lv_istore_n (lv' := [(2, .int 0), (1, .int (nI 0)), (0, .ref md)]) hx hb d_Md_split_8 rfl hl (by decide) rfl (fun ls hl => ?_)
  refine lv_iconst (v := 0) hx hb d_Md_split_9 (by decide) ?_
  refine lv_topi (fun x_3 ex_3 => ?_)
  obtain rfl : x_3 = nI 0 := by rw [ex_3]; first | done | (exact rfl)
  refine lv_istore_n (lv' := [(3, .int (nI 0)), (2, .int 0), (1, .int (nI 0)), (0, .ref md)]) hx hb d_Md_split_10 rfl hl (by decide) rfl (fun ls hl => ?_)
  refine lv_iconst (v := 0) hx hb d_Md_split_11 (by decide) ?_
  refine lv_topi (fun x_4 ex_4 => ?_)
  obtain rfl : x_4 = nI 0 := by rw [ex_4]; first | done | (exact rfl)
  refine lv_istore (lv' := [(4, .int (nI 0)), (3, .int (nI 0)), (2, .int 0), (1, .int (nI 0)), (0, .ref md)]) hx hb d_Md_split_12 hl (by decide) rfl (fun ls hl => ?_)
  have loop_14 : ∀ (n9 : Nat) (k : Nat) (A9 : Nat) (tq : Nat) (Pl : List (Nat × Nat)) (lg : Int32) (nwu : Nat → Int32) (nzu : Nat → Int32) (H : Heap) (locs : List Loc) (ls : Array Slot), tn - k < n9 → (k ≤ tn) → (A9 = spA tf tn k) → (Pl = spT tf tn k) → (tq = Pl.length) → (flg lg (∃ x, x ∈ Pl ∧ 500 < x.2)) → (spR nwu nzu Pl) → va_P (dC, dI) classes [(md, .inr (12, [.ref tp, .int (nI tn), md_thrown, md_fault, md_bytes, md_used, md_at, md_length, md_depAt, md_firstChange, md_hashes, md_deps, md_patches, md_sort, md_of, md_fileOf, md_one, md_two, md_nameAt, md_nameSize, md_overAt, md_overCount, md_lineAt, md_lineCount, md_changes, md_overs, md_overTotal, md_lineChange, md_textAt, md_textSize, md_lines, md_fileChange, md_fileLines, md_files, md_sets, md_stamp, md_digest, md_in, md_pos, md_stop, md_wrong, md_dep, md_named, md_depCount, md_own, md_refFile, md_full, md_h, md_counts, md_marked, md_namings, md_namingCount, md_listed, md_listedCount, md_listedStamp, md_member, md_text, md_place, md_dead, md_edge, md_way, md_members, md_textLines, md_unsure, md_workedRepository, md_workedFile, md_workedStamp, md_stack, md_before, md_left, md_made, md_madeSize, md_need, md_needs, .ref nwM, .ref nzM, .int (nI 0), md_common, md_keptAs, md_isNew, md_keptFrom, md_stateOf, md_rising])), (tp, .inl (cB, 65536, .inl tf)), (nwM, .inl (cI, 201, .inl nwu)), (nzM, .inl (cI, 201, .inl nzu))] H → va_D A [(md, .inr (12, [.ref tp, .int (nI tn), md_thrown, md_fault, md_bytes, md_used, md_at, md_length, md_depAt, md_firstChange, md_hashes, md_deps, md_patches, md_sort, md_of, md_fileOf, md_one, md_two, md_nameAt, md_nameSize, md_overAt, md_overCount, md_lineAt, md_lineCount, md_changes, md_overs, md_overTotal, md_lineChange, md_textAt, md_textSize, md_lines, md_fileChange, md_fileLines, md_files, md_sets, md_stamp, md_digest, md_in, md_pos, md_stop, md_wrong, md_dep, md_named, md_depCount, md_own, md_refFile, md_full, md_h, md_counts, md_marked, md_namings, md_namingCount, md_listed, md_listedCount, md_listedStamp, md_member, md_text, md_place, md_dead, md_edge, md_way, md_members, md_textLines, md_unsure, md_workedRepository, md_workedFile, md_workedStamp, md_stack, md_before, md_left, md_made, md_madeSize, md_need, md_needs, .ref nwM, .ref nzM, .int (nI 0), md_common, md_keptAs, md_isNew, md_keptFrom, md_stateOf, md_rising])), (tp, .inl (cB, 65536, .inl tf)), (nwM, .inl (cI, 201, .inl nwu)), (nzM, .inl (cI, 201, .inl nzu))] → va_S A s.heap H locs → lv_has ls 5 [(0, .ref md), (1, .int (nI tq)), (2, .int lg), (3, .int (nI A9)), (4, .int (nI k))] → W p l e (headSpec ws_Md_split ({ frames := 1, cells := 0, slots := 0, locals := 60 })).room s m ([.ref md] : List Value).toArray below meth c H locs 0 0 Q (F0 m 14 ls []) := by
    intro n9
    induction n9 with
    | zero => intro k A9 tq Pl lg nwu nzu H locs ls hm; exact absurd hm (Nat.not_lt_zero _)
    | succ n9 ih_14 =>
      intro k A9 tq Pl lg nwu nzu H locs ls hm hk hA hPl htq hlg hsr hP hD hS hl
      have hsa := spA_le tf tn k
      have hsn := spN_le tf tn k
      have hsn2 : tq ≤ k := by rw [htq, hPl]; exact hsn
      have hsa2 : A9 ≤ k := by rw [hA]; exact hsa
      refine lv_iload hx hb d_Md_split_14 (lv_at hl 4 rfl) ?_
      refine lv_aload_n hx hb d_Md_split_16 rfl (lv_at hl 0 rfl) ?_
      refine va_get (D := (dC, dI)) (ci := 12) (v := .int (nI tn)) (C := R_Md) (T := F_Md) (N := 83) hx hb hts i_Md hown hK hP 0 rfl rfl 1 (by decide) (hts _ gw_1419) (fun _ h9 => h9) rfl d_Md_split_17 ?_
      refine lv_icmp_ge (tgt := 103) hx hb d_Md_split_20 (by decide) (fun c_20 => ?_) (fun c_20 => ?_)
      · have n_20 : tn ≤ k := (nI_leI (a := tn) (b := k) (by omega) (by omega)).mp c_20
        refine lv_aload_n hx hb d_Md_split_103 rfl (lv_at hl 0 rfl) ?_
        refine lv_iload_n hx hb d_Md_split_104 rfl (lv_at hl 1 rfl) ?_
        refine lv_sipush (v := 200) hx hb d_Md_split_105 (by decide) ?_
        refine lv_topi (fun x_5 ex_5 => ?_)
        obtain rfl : x_5 = nI 200 := by rw [ex_5]; first | done | (exact rfl)
        refine va_mmin hx hb (by rw [hml, hl.1]) hown (hts _ gw_1910) (hts _ gw_1785) (hts _ gw_24) (hts _ gw_1786) (Nat.le_of_ble_eq_true rfl) (Nat.le_of_ble_eq_true rfl) (Nat.le_of_ble_eq_true rfl) (Nat.le_of_ble_eq_true rfl) d_Md_split_108 ?_
        refine lv_topi (fun x_6 ex_6 => ?_)
        obtain rfl : x_6 = nI (min tq 200) := by rw [ex_6]; first | done | (exact mn_eq (by omega) (by omega))
        refine va_put (D := (dC, dI)) (ci := 12) (v := .int (nI (min tq 200))) (ty := .int) (C := R_Md) (T := F_Md) (N := 83) hx hb hts i_Md t_Md t_Md_ok n_Md hown hK hP hD hS 0 rfl rfl 76 (by decide) (hts _ gw_1494) (fun _ h9 => h9) rfl (by decide +kernel) rfl rfl (Nat.le_of_ble_eq_true rfl) d_Md_split_111 (fun H locs hP hD hS => ?_)
        have hP : va_P (dC, dI) classes [(md, .inr (12, [.ref tp, .int (nI tn), md_thrown, md_fault, md_bytes, md_used, md_at, md_length, md_depAt, md_firstChange, md_hashes, md_deps, md_patches, md_sort, md_of, md_fileOf, md_one, md_two, md_nameAt, md_nameSize, md_overAt, md_overCount, md_lineAt, md_lineCount, md_changes, md_overs, md_overTotal, md_lineChange, md_textAt, md_textSize, md_lines, md_fileChange, md_fileLines, md_files, md_sets, md_stamp, md_digest, md_in, md_pos, md_stop, md_wrong, md_dep, md_named, md_depCount, md_own, md_refFile, md_full, md_h, md_counts, md_marked, md_namings, md_namingCount, md_listed, md_listedCount, md_listedStamp, md_member, md_text, md_place, md_dead, md_edge, md_way, md_members, md_textLines, md_unsure, md_workedRepository, md_workedFile, md_workedStamp, md_stack, md_before, md_left, md_made, md_madeSize, md_need, md_needs, .ref nwM, .ref nzM, .int (nI (min tq 200)), md_common, md_keptAs, md_isNew, md_keptFrom, md_stateOf, md_rising])), (tp, .inl (cB, 65536, .inl tf)), (nwM, .inl (cI, 201, .inl nwu)), (nzM, .inl (cI, 201, .inl nzu))] H := hP
        have hD : va_D A [(md, .inr (12, [.ref tp, .int (nI tn), md_thrown, md_fault, md_bytes, md_used, md_at, md_length, md_depAt, md_firstChange, md_hashes, md_deps, md_patches, md_sort, md_of, md_fileOf, md_one, md_two, md_nameAt, md_nameSize, md_overAt, md_overCount, md_lineAt, md_lineCount, md_changes, md_overs, md_overTotal, md_lineChange, md_textAt, md_textSize, md_lines, md_fileChange, md_fileLines, md_files, md_sets, md_stamp, md_digest, md_in, md_pos, md_stop, md_wrong, md_dep, md_named, md_depCount, md_own, md_refFile, md_full, md_h, md_counts, md_marked, md_namings, md_namingCount, md_listed, md_listedCount, md_listedStamp, md_member, md_text, md_place, md_dead, md_edge, md_way, md_members, md_textLines, md_unsure, md_workedRepository, md_workedFile, md_workedStamp, md_stack, md_before, md_left, md_made, md_madeSize, md_need, md_needs, .ref nwM, .ref nzM, .int (nI (min tq 200)), md_common, md_keptAs, md_isNew, md_keptFrom, md_stateOf, md_rising])), (tp, .inl (cB, 65536, .inl tf)), (nwM, .inl (cI, 201, .inl nwu)), (nzM, .inl (cI, 201, .inl nzu))] := hD
        refine lv_iload_n hx hb d_Md_split_114 rfl (lv_at hl 2 rfl) ?_
        refine lv_if_eq (tgt := 122) hx hb d_Md_split_115 (by decide) (fun c_115 => ?_) (fun c_115 => ?_)
        · refine lv_iload_n hx hb d_Md_split_122 rfl (lv_at hl 1 rfl) ?_
          refine lv_sipush (v := 200) hx hb d_Md_split_123 (by decide) ?_
          refine lv_icmp_le (tgt := 133) hx hb d_Md_split_126 (by decide) (fun c_126 => ?_) (fun c_126 => ?_)
          · have n_126 : tq ≤ 200 := (nI_leI (a := tq) (b := 200) (by omega) (by omega)).mp c_126
            refine lv_iconst (v := 0) hx hb d_Md_split_133 (by decide) ?_
            have hkT : k = tn := by omega
            have hPt : Pl = (spT tf tn tn) := by rw [hPl, hkT]
            rw [hPt] at hlg hsr htq
            rw [← hQe]
            exact W.iret (v := 0) hx hb hr (fun t ht hW => ⟨⟨_, (nwu, nzu, min tq 200), rfl, ⟨Or.inr (Or.inr ⟨rfl, (hlg.resolve_left (fun z => absurd (z.1.symm.trans c_115) (by decide))).2, by omega⟩), hsr, by rw [← htq]⟩, by rw [ht]; exact hP, va_K.moved hW.alike hK, hD⟩, hS.F ht⟩) hS.2.2 d_Md_split_134
          · have n_126 : 200 < tq := Nat.lt_of_not_le (fun z => c_126 ((nI_leI (a := tq) (b := 200) (by omega) (by omega)).mpr z))
            refine lv_iconst (v := 2) hx hb d_Md_split_129 (by decide) ?_
            refine lv_goto (tgt := 134) hx hb d_Md_split_130 (by decide) ?_
            have hkT : k = tn := by omega
            have hPt : Pl = (spT tf tn tn) := by rw [hPl, hkT]
            rw [hPt] at hlg hsr htq
            rw [← hQe]
            exact W.iret (v := 2) hx hb hr (fun t ht hW => ⟨⟨_, (nwu, nzu, min tq 200), rfl, ⟨Or.inr (Or.inl ⟨rfl, (hlg.resolve_left (fun z => absurd (z.1.symm.trans c_115) (by decide))).2, by omega⟩), hsr, by rw [← htq]⟩, by rw [ht]; exact hP, va_K.moved hW.alike hK, hD⟩, hS.F ht⟩) hS.2.2 d_Md_split_134
        · refine lv_iconst (v := 1) hx hb d_Md_split_118 (by decide) ?_
          refine lv_goto (tgt := 134) hx hb d_Md_split_119 (by decide) ?_
          have hkT : k = tn := by omega
          have hPt : Pl = (spT tf tn tn) := by rw [hPl, hkT]
          rw [hPt] at hlg hsr htq
          rw [← hQe]
          exact W.iret (v := 1) hx hb hr (fun t ht hW => ⟨⟨_, (nwu, nzu, min tq 200), rfl, ⟨Or.inl ⟨rfl, (hlg.resolve_right (fun z => c_115 z.1)).2⟩, hsr, by rw [← htq]⟩, by rw [ht]; exact hP, va_K.moved hW.alike hK, hD⟩, hS.F ht⟩) hS.2.2 d_Md_split_134
      · have n_20 : k < tn := Nat.lt_of_not_le (fun z => c_20 ((nI_leI (a := tn) (b := k) (by omega) (by omega)).mpr z))
        refine lv_aload_n hx hb d_Md_split_23 rfl (lv_at hl 0 rfl) ?_
        refine va_get (D := (dC, dI)) (ci := 12) (v := .ref tp) (C := R_Md) (T := F_Md) (N := 83) hx hb hts i_Md hown hK hP 0 rfl rfl 0 (by decide) (hts _ gw_1418) (fun _ h9 => h9) rfl d_Md_split_24 ?_
        refine lv_iload hx hb d_Md_split_27 (lv_at hl 4 rfl) ?_
        refine va_bald hx hb hK hP 1 1 rfl rfl (vp_in_nI (by omega) (by omega)) d_Md_split_29 ?_
        rw [show (nI k).toNatClampNeg = k from nI_clamp (by omega)]
        refine lv_bipush (v := 10) hx hb d_Md_split_30 (by decide) ?_
        refine lv_icmp_eq (tgt := 49) hx hb d_Md_split_32 (by decide) (fun c_32 => ?_) (fun c_32 => ?_)
        · have hct : tf k = 10 ∨ k + 1 = tn := Or.inl c_32
          refine lv_iload hx hb d_Md_split_49 (lv_at hl 4 rfl) ?_
          refine lv_iconst (v := 1) hx hb d_Md_split_51 (by decide) ?_
          refine lv_iadd hx hb d_Md_split_52 ?_
          refine lv_topi (fun x_7 ex_7 => ?_)
          obtain rfl : x_7 = nI (k + 1) := by rw [ex_7]; first | done | (exact nI_add _ _)
          refine lv_iload_n hx hb d_Md_split_53 rfl (lv_at hl 3 rfl) ?_
          refine lv_isub hx hb d_Md_split_54 ?_
          refine lv_topi (fun x_8 ex_8 => ?_)
          obtain rfl : x_8 = nI (k + 1 - A9) := by rw [ex_8]; first | done | (exact nI_subN (by omega))
          refine lv_sipush (v := 500) hx hb d_Md_split_55 (by decide) ?_
          refine lv_icmp_le (tgt := 63) hx hb d_Md_split_58 (by decide) (fun c_58 => ?_) (fun c_58 => ?_)
          · have n_58 : (k + 1 - A9) ≤ 500 := (nI_leI (a := (k + 1 - A9)) (b := 500) (by omega) (by omega)).mp c_58
            refine lv_iload_n hx hb d_Md_split_63 rfl (lv_at hl 1 rfl) ?_
            refine lv_sipush (v := 200) hx hb d_Md_split_64 (by decide) ?_
            refine lv_icmp_ge (tgt := 89) hx hb d_Md_split_67 (by decide) (fun c_67 => ?_) (fun c_67 => ?_)
            · have n_67 : 200 ≤ tq := (nI_leI (a := 200) (b := tq) (by omega) (by omega)).mp c_67
              refine lv_iinc (v := nI (tq + 1)) (lv' := [(1, .int (nI (tq + 1))), (0, .ref md), (2, .int lg), (3, .int (nI A9)), (4, .int (nI k))]) hx hb d_Md_split_89 hl (k := 1) rfl (by exact nI_add _ _) (by decide) rfl (fun ls hl => ?_)
              refine lv_iload hx hb d_Md_split_92 (lv_at hl 4 rfl) ?_
              refine lv_iconst (v := 1) hx hb d_Md_split_94 (by decide) ?_
              refine lv_iadd hx hb d_Md_split_95 ?_
              refine lv_topi (fun x_9 ex_9 => ?_)
              obtain rfl : x_9 = nI (k + 1) := by rw [ex_9]; first | done | (exact nI_add _ _)
              refine lv_istore_n (lv' := [(3, .int (nI (k + 1))), (1, .int (nI (tq + 1))), (0, .ref md), (2, .int lg), (4, .int (nI k))]) hx hb d_Md_split_96 rfl hl (by decide) rfl (fun ls hl => ?_)
              refine lv_iinc (v := nI (k + 1)) (lv' := [(4, .int (nI (k + 1))), (3, .int (nI (k + 1))), (1, .int (nI (tq + 1))), (0, .ref md), (2, .int lg)]) hx hb d_Md_split_97 hl (k := 4) rfl (by exact nI_add _ _) (by decide) rfl (fun ls hl => ?_)
              refine lv_goto (tgt := 14) hx hb d_Md_split_100 (by decide) ?_
              exact ih_14 (k + 1) (k + 1) (tq + 1) (Pl ++ [(A9, k + 1 - A9)]) lg nwu nzu _ _ _ (by omega) (by omega) ((spS_yes hct).1.symm) (by rw [hPl, hA]; exact (spS_yes hct).2.symm) (by rw [List.length_append, htq]; rfl) (lg_no hlg n_58) (hsr.more (by omega)) hP hD hS (lv_sub hl [3, 2, 4, 1, 0] rfl)
            · have n_67 : tq < 200 := Nat.lt_of_not_le (fun z => c_67 ((nI_leI (a := 200) (b := tq) (by omega) (by omega)).mpr z))
              refine lv_aload_n hx hb d_Md_split_70 rfl (lv_at hl 0 rfl) ?_
              refine va_get (D := (dC, dI)) (ci := 12) (v := .ref nwM) (C := R_Md) (T := F_Md) (N := 83) hx hb hts i_Md hown hK hP 0 rfl rfl 74 (by decide) (hts _ gw_1492) (fun _ h9 => h9) rfl d_Md_split_71 ?_
              refine lv_iload_n hx hb d_Md_split_74 rfl (lv_at hl 1 rfl) ?_
              refine lv_iload_n hx hb d_Md_split_75 rfl (lv_at hl 3 rfl) ?_
              refine va_iast hx hb hK hP hD hS 2 0 rfl rfl (vp_in_nI (by omega) (by omega)) d_Md_split_76 (fun H locs hP hD hS => ?_)
              rw [show (nI tq).toNatClampNeg = tq from nI_clamp (by omega)] at hP hD
              have hP : va_P (dC, dI) classes [(md, .inr (12, [.ref tp, .int (nI tn), md_thrown, md_fault, md_bytes, md_used, md_at, md_length, md_depAt, md_firstChange, md_hashes, md_deps, md_patches, md_sort, md_of, md_fileOf, md_one, md_two, md_nameAt, md_nameSize, md_overAt, md_overCount, md_lineAt, md_lineCount, md_changes, md_overs, md_overTotal, md_lineChange, md_textAt, md_textSize, md_lines, md_fileChange, md_fileLines, md_files, md_sets, md_stamp, md_digest, md_in, md_pos, md_stop, md_wrong, md_dep, md_named, md_depCount, md_own, md_refFile, md_full, md_h, md_counts, md_marked, md_namings, md_namingCount, md_listed, md_listedCount, md_listedStamp, md_member, md_text, md_place, md_dead, md_edge, md_way, md_members, md_textLines, md_unsure, md_workedRepository, md_workedFile, md_workedStamp, md_stack, md_before, md_left, md_made, md_madeSize, md_need, md_needs, .ref nwM, .ref nzM, .int (nI 0), md_common, md_keptAs, md_isNew, md_keptFrom, md_stateOf, md_rising])), (tp, .inl (cB, 65536, .inl tf)), (nwM, .inl (cI, 201, .inl (upd nwu tq (nI A9)))), (nzM, .inl (cI, 201, .inl nzu))] H := hP
              have hD : va_D A [(md, .inr (12, [.ref tp, .int (nI tn), md_thrown, md_fault, md_bytes, md_used, md_at, md_length, md_depAt, md_firstChange, md_hashes, md_deps, md_patches, md_sort, md_of, md_fileOf, md_one, md_two, md_nameAt, md_nameSize, md_overAt, md_overCount, md_lineAt, md_lineCount, md_changes, md_overs, md_overTotal, md_lineChange, md_textAt, md_textSize, md_lines, md_fileChange, md_fileLines, md_files, md_sets, md_stamp, md_digest, md_in, md_pos, md_stop, md_wrong, md_dep, md_named, md_depCount, md_own, md_refFile, md_full, md_h, md_counts, md_marked, md_namings, md_namingCount, md_listed, md_listedCount, md_listedStamp, md_member, md_text, md_place, md_dead, md_edge, md_way, md_members, md_textLines, md_unsure, md_workedRepository, md_workedFile, md_workedStamp, md_stack, md_before, md_left, md_made, md_madeSize, md_need, md_needs, .ref nwM, .ref nzM, .int (nI 0), md_common, md_keptAs, md_isNew, md_keptFrom, md_stateOf, md_rising])), (tp, .inl (cB, 65536, .inl tf)), (nwM, .inl (cI, 201, .inl (upd nwu tq (nI A9)))), (nzM, .inl (cI, 201, .inl nzu))] := hD
              refine lv_aload_n hx hb d_Md_split_77 rfl (lv_at hl 0 rfl) ?_
              refine va_get (D := (dC, dI)) (ci := 12) (v := .ref nzM) (C := R_Md) (T := F_Md) (N := 83) hx hb hts i_Md hown hK hP 0 rfl rfl 75 (by decide) (hts _ gw_1493) (fun _ h9 => h9) rfl d_Md_split_78 ?_
              refine lv_iload_n hx hb d_Md_split_81 rfl (lv_at hl 1 rfl) ?_
              refine lv_iload hx hb d_Md_split_82 (lv_at hl 4 rfl) ?_
              refine lv_iconst (v := 1) hx hb d_Md_split_84 (by decide) ?_
              refine lv_iadd hx hb d_Md_split_85 ?_
              refine lv_topi (fun x_10 ex_10 => ?_)
              obtain rfl : x_10 = nI (k + 1) := by rw [ex_10]; first | done | (exact nI_add _ _)
              refine lv_iload_n hx hb d_Md_split_86 rfl (lv_at hl 3 rfl) ?_
              refine lv_isub hx hb d_Md_split_87 ?_
              refine lv_topi (fun x_11 ex_11 => ?_)
              obtain rfl : x_11 = nI (k + 1 - A9) := by rw [ex_11]; first | done | (exact nI_subN (by omega))
              refine va_iast hx hb hK hP hD hS 3 0 rfl rfl (vp_in_nI (by omega) (by omega)) d_Md_split_88 (fun H locs hP hD hS => ?_)
              rw [show (nI tq).toNatClampNeg = tq from nI_clamp (by omega)] at hP hD
              have hP : va_P (dC, dI) classes [(md, .inr (12, [.ref tp, .int (nI tn), md_thrown, md_fault, md_bytes, md_used, md_at, md_length, md_depAt, md_firstChange, md_hashes, md_deps, md_patches, md_sort, md_of, md_fileOf, md_one, md_two, md_nameAt, md_nameSize, md_overAt, md_overCount, md_lineAt, md_lineCount, md_changes, md_overs, md_overTotal, md_lineChange, md_textAt, md_textSize, md_lines, md_fileChange, md_fileLines, md_files, md_sets, md_stamp, md_digest, md_in, md_pos, md_stop, md_wrong, md_dep, md_named, md_depCount, md_own, md_refFile, md_full, md_h, md_counts, md_marked, md_namings, md_namingCount, md_listed, md_listedCount, md_listedStamp, md_member, md_text, md_place, md_dead, md_edge, md_way, md_members, md_textLines, md_unsure, md_workedRepository, md_workedFile, md_workedStamp, md_stack, md_before, md_left, md_made, md_madeSize, md_need, md_needs, .ref nwM, .ref nzM, .int (nI 0), md_common, md_keptAs, md_isNew, md_keptFrom, md_stateOf, md_rising])), (tp, .inl (cB, 65536, .inl tf)), (nwM, .inl (cI, 201, .inl (upd nwu tq (nI A9)))), (nzM, .inl (cI, 201, .inl (upd nzu tq (nI (k + 1 - A9)))))] H := hP
              have hD : va_D A [(md, .inr (12, [.ref tp, .int (nI tn), md_thrown, md_fault, md_bytes, md_used, md_at, md_length, md_depAt, md_firstChange, md_hashes, md_deps, md_patches, md_sort, md_of, md_fileOf, md_one, md_two, md_nameAt, md_nameSize, md_overAt, md_overCount, md_lineAt, md_lineCount, md_changes, md_overs, md_overTotal, md_lineChange, md_textAt, md_textSize, md_lines, md_fileChange, md_fileLines, md_files, md_sets, md_stamp, md_digest, md_in, md_pos, md_stop, md_wrong, md_dep, md_named, md_depCount, md_own, md_refFile, md_full, md_h, md_counts, md_marked, md_namings, md_namingCount, md_listed, md_listedCount, md_listedStamp, md_member, md_text, md_place, md_dead, md_edge, md_way, md_members, md_textLines, md_unsure, md_workedRepository, md_workedFile, md_workedStamp, md_stack, md_before, md_left, md_made, md_madeSize, md_need, md_needs, .ref nwM, .ref nzM, .int (nI 0), md_common, md_keptAs, md_isNew, md_keptFrom, md_stateOf, md_rising])), (tp, .inl (cB, 65536, .inl tf)), (nwM, .inl (cI, 201, .inl (upd nwu tq (nI A9)))), (nzM, .inl (cI, 201, .inl (upd nzu tq (nI (k + 1 - A9)))))] := hD
              refine lv_iinc (v := nI (tq + 1)) (lv' := [(1, .int (nI (tq + 1))), (0, .ref md), (2, .int lg), (3, .int (nI A9)), (4, .int (nI k))]) hx hb d_Md_split_89 hl (k := 1) rfl (by exact nI_add _ _) (by decide) rfl (fun ls hl => ?_)
              refine lv_iload hx hb d_Md_split_92 (lv_at hl 4 rfl) ?_
              refine lv_iconst (v := 1) hx hb d_Md_split_94 (by decide) ?_
              refine lv_iadd hx hb d_Md_split_95 ?_
              refine lv_topi (fun x_12 ex_12 => ?_)
              obtain rfl : x_12 = nI (k + 1) := by rw [ex_12]; first | done | (exact nI_add _ _)
              refine lv_istore_n (lv' := [(3, .int (nI (k + 1))), (1, .int (nI (tq + 1))), (0, .ref md), (2, .int lg), (4, .int (nI k))]) hx hb d_Md_split_96 rfl hl (by decide) rfl (fun ls hl => ?_)
              refine lv_iinc (v := nI (k + 1)) (lv' := [(4, .int (nI (k + 1))), (3, .int (nI (k + 1))), (1, .int (nI (tq + 1))), (0, .ref md), (2, .int lg)]) hx hb d_Md_split_97 hl (k := 4) rfl (by exact nI_add _ _) (by decide) rfl (fun ls hl => ?_)
              refine lv_goto (tgt := 14) hx hb d_Md_split_100 (by decide) ?_
              exact ih_14 (k + 1) (k + 1) (tq + 1) (Pl ++ [(A9, k + 1 - A9)]) lg (upd nwu tq (nI A9)) (upd nzu tq (nI (k + 1 - A9))) _ _ _ (by omega) (by omega) ((spS_yes hct).1.symm) (by rw [hPl, hA]; exact (spS_yes hct).2.symm) (by rw [List.length_append, htq]; rfl) (lg_no hlg n_58) (hsr.pushF htq) hP hD hS (lv_sub hl [3, 2, 4, 1, 0] rfl)
          · have n_58 : 500 < (k + 1 - A9) := Nat.lt_of_not_le (fun z => c_58 ((nI_leI (a := (k + 1 - A9)) (b := 500) (by omega) (by omega)).mpr z))
            refine lv_iconst (v := 1) hx hb d_Md_split_61 (by decide) ?_
            refine lv_istore_n (lv' := [(2, .int 1), (0, .ref md), (1, .int (nI tq)), (3, .int (nI A9)), (4, .int (nI k))]) hx hb d_Md_split_62 rfl hl (by decide) rfl (fun ls hl => ?_)
            refine lv_iload_n hx hb d_Md_split_63 rfl (lv_at hl 2 rfl) ?_
            refine lv_sipush (v := 200) hx hb d_Md_split_64 (by decide) ?_
            refine lv_icmp_ge (tgt := 89) hx hb d_Md_split_67 (by decide) (fun c_67 => ?_) (fun c_67 => ?_)
            · have n_67 : 200 ≤ tq := (nI_leI (a := 200) (b := tq) (by omega) (by omega)).mp c_67
              refine lv_iinc (v := nI (tq + 1)) (lv' := [(1, .int (nI (tq + 1))), (2, .int 1), (0, .ref md), (3, .int (nI A9)), (4, .int (nI k))]) hx hb d_Md_split_89 hl (k := 2) rfl (by exact nI_add _ _) (by decide) rfl (fun ls hl => ?_)
              refine lv_iload hx hb d_Md_split_92 (lv_at hl 4 rfl) ?_
              refine lv_iconst (v := 1) hx hb d_Md_split_94 (by decide) ?_
              refine lv_iadd hx hb d_Md_split_95 ?_
              refine lv_topi (fun x_13 ex_13 => ?_)
              obtain rfl : x_13 = nI (k + 1) := by rw [ex_13]; first | done | (exact nI_add _ _)
              refine lv_istore_n (lv' := [(3, .int (nI (k + 1))), (1, .int (nI (tq + 1))), (2, .int 1), (0, .ref md), (4, .int (nI k))]) hx hb d_Md_split_96 rfl hl (by decide) rfl (fun ls hl => ?_)
              refine lv_iinc (v := nI (k + 1)) (lv' := [(4, .int (nI (k + 1))), (3, .int (nI (k + 1))), (1, .int (nI (tq + 1))), (2, .int 1), (0, .ref md)]) hx hb d_Md_split_97 hl (k := 4) rfl (by exact nI_add _ _) (by decide) rfl (fun ls hl => ?_)
              refine lv_goto (tgt := 14) hx hb d_Md_split_100 (by decide) ?_
              exact ih_14 (k + 1) (k + 1) (tq + 1) (Pl ++ [(A9, k + 1 - A9)]) 1 nwu nzu _ _ _ (by omega) (by omega) ((spS_yes hct).1.symm) (by rw [hPl, hA]; exact (spS_yes hct).2.symm) (by rw [List.length_append, htq]; rfl) (lg_yes n_58) (hsr.more (by omega)) hP hD hS (lv_sub hl [4, 2, 3, 1, 0] rfl)
            · have n_67 : tq < 200 := Nat.lt_of_not_le (fun z => c_67 ((nI_leI (a := 200) (b := tq) (by omega) (by omega)).mpr z))
              refine lv_aload_n hx hb d_Md_split_70 rfl (lv_at hl 1 rfl) ?_
              refine va_get (D := (dC, dI)) (ci := 12) (v := .ref nwM) (C := R_Md) (T := F_Md) (N := 83) hx hb hts i_Md hown hK hP 0 rfl rfl 74 (by decide) (hts _ gw_1492) (fun _ h9 => h9) rfl d_Md_split_71 ?_
              refine lv_iload_n hx hb d_Md_split_74 rfl (lv_at hl 2 rfl) ?_
              refine lv_iload_n hx hb d_Md_split_75 rfl (lv_at hl 3 rfl) ?_
              refine va_iast hx hb hK hP hD hS 2 0 rfl rfl (vp_in_nI (by omega) (by omega)) d_Md_split_76 (fun H locs hP hD hS => ?_)
              rw [show (nI tq).toNatClampNeg = tq from nI_clamp (by omega)] at hP hD
              have hP : va_P (dC, dI) classes [(md, .inr (12, [.ref tp, .int (nI tn), md_thrown, md_fault, md_bytes, md_used, md_at, md_length, md_depAt, md_firstChange, md_hashes, md_deps, md_patches, md_sort, md_of, md_fileOf, md_one, md_two, md_nameAt, md_nameSize, md_overAt, md_overCount, md_lineAt, md_lineCount, md_changes, md_overs, md_overTotal, md_lineChange, md_textAt, md_textSize, md_lines, md_fileChange, md_fileLines, md_files, md_sets, md_stamp, md_digest, md_in, md_pos, md_stop, md_wrong, md_dep, md_named, md_depCount, md_own, md_refFile, md_full, md_h, md_counts, md_marked, md_namings, md_namingCount, md_listed, md_listedCount, md_listedStamp, md_member, md_text, md_place, md_dead, md_edge, md_way, md_members, md_textLines, md_unsure, md_workedRepository, md_workedFile, md_workedStamp, md_stack, md_before, md_left, md_made, md_madeSize, md_need, md_needs, .ref nwM, .ref nzM, .int (nI 0), md_common, md_keptAs, md_isNew, md_keptFrom, md_stateOf, md_rising])), (tp, .inl (cB, 65536, .inl tf)), (nwM, .inl (cI, 201, .inl (upd nwu tq (nI A9)))), (nzM, .inl (cI, 201, .inl nzu))] H := hP
              have hD : va_D A [(md, .inr (12, [.ref tp, .int (nI tn), md_thrown, md_fault, md_bytes, md_used, md_at, md_length, md_depAt, md_firstChange, md_hashes, md_deps, md_patches, md_sort, md_of, md_fileOf, md_one, md_two, md_nameAt, md_nameSize, md_overAt, md_overCount, md_lineAt, md_lineCount, md_changes, md_overs, md_overTotal, md_lineChange, md_textAt, md_textSize, md_lines, md_fileChange, md_fileLines, md_files, md_sets, md_stamp, md_digest, md_in, md_pos, md_stop, md_wrong, md_dep, md_named, md_depCount, md_own, md_refFile, md_full, md_h, md_counts, md_marked, md_namings, md_namingCount, md_listed, md_listedCount, md_listedStamp, md_member, md_text, md_place, md_dead, md_edge, md_way, md_members, md_textLines, md_unsure, md_workedRepository, md_workedFile, md_workedStamp, md_stack, md_before, md_left, md_made, md_madeSize, md_need, md_needs, .ref nwM, .ref nzM, .int (nI 0), md_common, md_keptAs, md_isNew, md_keptFrom, md_stateOf, md_rising])), (tp, .inl (cB, 65536, .inl tf)), (nwM, .inl (cI, 201, .inl (upd nwu tq (nI A9)))), (nzM, .inl (cI, 201, .inl nzu))] := hD
              refine lv_aload_n hx hb d_Md_split_77 rfl (lv_at hl 1 rfl) ?_
              refine va_get (D := (dC, dI)) (ci := 12) (v := .ref nzM) (C := R_Md) (T := F_Md) (N := 83) hx hb hts i_Md hown hK hP 0 rfl rfl 75 (by decide) (hts _ gw_1493) (fun _ h9 => h9) rfl d_Md_split_78 ?_
              refine lv_iload_n hx hb d_Md_split_81 rfl (lv_at hl 2 rfl) ?_
              refine lv_iload hx hb d_Md_split_82 (lv_at hl 4 rfl) ?_
              refine lv_iconst (v := 1) hx hb d_Md_split_84 (by decide) ?_
              refine lv_iadd hx hb d_Md_split_85 ?_
              refine lv_topi (fun x_14 ex_14 => ?_)
              obtain rfl : x_14 = nI (k + 1) := by rw [ex_14]; first | done | (exact nI_add _ _)
              refine lv_iload_n hx hb d_Md_split_86 rfl (lv_at hl 3 rfl) ?_
              refine lv_isub hx hb d_Md_split_87 ?_
              refine lv_topi (fun x_15 ex_15 => ?_)
              obtain rfl : x_15 = nI (k + 1 - A9) := by rw [ex_15]; first | done | (exact nI_subN (by omega))
              refine va_iast hx hb hK hP hD hS 3 0 rfl rfl (vp_in_nI (by omega) (by omega)) d_Md_split_88 (fun H locs hP hD hS => ?_)
              rw [show (nI tq).toNatClampNeg = tq from nI_clamp (by omega)] at hP hD
              have hP : va_P (dC, dI) classes [(md, .inr (12, [.ref tp, .int (nI tn), md_thrown, md_fault, md_bytes, md_used, md_at, md_length, md_depAt, md_firstChange, md_hashes, md_deps, md_patches, md_sort, md_of, md_fileOf, md_one, md_two, md_nameAt, md_nameSize, md_overAt, md_overCount, md_lineAt, md_lineCount, md_changes, md_overs, md_overTotal, md_lineChange, md_textAt, md_textSize, md_lines, md_fileChange, md_fileLines, md_files, md_sets, md_stamp, md_digest, md_in, md_pos, md_stop, md_wrong, md_dep, md_named, md_depCount, md_own, md_refFile, md_full, md_h, md_counts, md_marked, md_namings, md_namingCount, md_listed, md_listedCount, md_listedStamp, md_member, md_text, md_place, md_dead, md_edge, md_way, md_members, md_textLines, md_unsure, md_workedRepository, md_workedFile, md_workedStamp, md_stack, md_before, md_left, md_made, md_madeSize, md_need, md_needs, .ref nwM, .ref nzM, .int (nI 0), md_common, md_keptAs, md_isNew, md_keptFrom, md_stateOf, md_rising])), (tp, .inl (cB, 65536, .inl tf)), (nwM, .inl (cI, 201, .inl (upd nwu tq (nI A9)))), (nzM, .inl (cI, 201, .inl (upd nzu tq (nI (k + 1 - A9)))))] H := hP
              have hD : va_D A [(md, .inr (12, [.ref tp, .int (nI tn), md_thrown, md_fault, md_bytes, md_used, md_at, md_length, md_depAt, md_firstChange, md_hashes, md_deps, md_patches, md_sort, md_of, md_fileOf, md_one, md_two, md_nameAt, md_nameSize, md_overAt, md_overCount, md_lineAt, md_lineCount, md_changes, md_overs, md_overTotal, md_lineChange, md_textAt, md_textSize, md_lines, md_fileChange, md_fileLines, md_files, md_sets, md_stamp, md_digest, md_in, md_pos, md_stop, md_wrong, md_dep, md_named, md_depCount, md_own, md_refFile, md_full, md_h, md_counts, md_marked, md_namings, md_namingCount, md_listed, md_listedCount, md_listedStamp, md_member, md_text, md_place, md_dead, md_edge, md_way, md_members, md_textLines, md_unsure, md_workedRepository, md_workedFile, md_workedStamp, md_stack, md_before, md_left, md_made, md_madeSize, md_need, md_needs, .ref nwM, .ref nzM, .int (nI 0), md_common, md_keptAs, md_isNew, md_keptFrom, md_stateOf, md_rising])), (tp, .inl (cB, 65536, .inl tf)), (nwM, .inl (cI, 201, .inl (upd nwu tq (nI A9)))), (nzM, .inl (cI, 201, .inl (upd nzu tq (nI (k + 1 - A9)))))] := hD
              refine lv_iinc (v := nI (tq + 1)) (lv' := [(1, .int (nI (tq + 1))), (2, .int 1), (0, .ref md), (3, .int (nI A9)), (4, .int (nI k))]) hx hb d_Md_split_89 hl (k := 2) rfl (by exact nI_add _ _) (by decide) rfl (fun ls hl => ?_)
              refine lv_iload hx hb d_Md_split_92 (lv_at hl 4 rfl) ?_
              refine lv_iconst (v := 1) hx hb d_Md_split_94 (by decide) ?_
              refine lv_iadd hx hb d_Md_split_95 ?_
              refine lv_topi (fun x_16 ex_16 => ?_)
              obtain rfl : x_16 = nI (k + 1) := by rw [ex_16]; first | done | (exact nI_add _ _)
              refine lv_istore_n (lv' := [(3, .int (nI (k + 1))), (1, .int (nI (tq + 1))), (2, .int 1), (0, .ref md), (4, .int (nI k))]) hx hb d_Md_split_96 rfl hl (by decide) rfl (fun ls hl => ?_)
              refine lv_iinc (v := nI (k + 1)) (lv' := [(4, .int (nI (k + 1))), (3, .int (nI (k + 1))), (1, .int (nI (tq + 1))), (2, .int 1), (0, .ref md)]) hx hb d_Md_split_97 hl (k := 4) rfl (by exact nI_add _ _) (by decide) rfl (fun ls hl => ?_)
              refine lv_goto (tgt := 14) hx hb d_Md_split_100 (by decide) ?_
              exact ih_14 (k + 1) (k + 1) (tq + 1) (Pl ++ [(A9, k + 1 - A9)]) 1 (upd nwu tq (nI A9)) (upd nzu tq (nI (k + 1 - A9))) _ _ _ (by omega) (by omega) ((spS_yes hct).1.symm) (by rw [hPl, hA]; exact (spS_yes hct).2.symm) (by rw [List.length_append, htq]; rfl) (lg_yes n_58) (hsr.pushF htq) hP hD hS (lv_sub hl [4, 2, 3, 1, 0] rfl)
        · refine lv_iload hx hb d_Md_split_35 (lv_at hl 4 rfl) ?_
          refine lv_aload_n hx hb d_Md_split_37 rfl (lv_at hl 0 rfl) ?_
          refine va_get (D := (dC, dI)) (ci := 12) (v := .int (nI tn)) (C := R_Md) (T := F_Md) (N := 83) hx hb hts i_Md hown hK hP 0 rfl rfl 1 (by decide) (hts _ gw_1419) (fun _ h9 => h9) rfl d_Md_split_38 ?_
          refine lv_iconst (v := 1) hx hb d_Md_split_41 (by decide) ?_
          refine lv_isub hx hb d_Md_split_42 ?_
          refine lv_topi (fun x_17 ex_17 => ?_)
          obtain rfl : x_17 = nI (tn - 1) := by rw [ex_17]; first | done | (exact nI_subN (b := 1) (by omega))
          refine lv_icmp_ge (tgt := 49) hx hb d_Md_split_43 (by decide) (fun c_43 => ?_) (fun c_43 => ?_)
          · have n_43 : (tn - 1) ≤ k := (nI_leI (a := (tn - 1)) (b := k) (by omega) (by omega)).mp c_43
            have hct : tf k = 10 ∨ k + 1 = tn := Or.inr (by omega)
            refine lv_iload hx hb d_Md_split_49 (lv_at hl 4 rfl) ?_
            refine lv_iconst (v := 1) hx hb d_Md_split_51 (by decide) ?_
            refine lv_iadd hx hb d_Md_split_52 ?_
            refine lv_topi (fun x_18 ex_18 => ?_)
            obtain rfl : x_18 = nI (k + 1) := by rw [ex_18]; first | done | (exact nI_add _ _)
            refine lv_iload_n hx hb d_Md_split_53 rfl (lv_at hl 3 rfl) ?_
            refine lv_isub hx hb d_Md_split_54 ?_
            refine lv_topi (fun x_19 ex_19 => ?_)
            obtain rfl : x_19 = nI (k + 1 - A9) := by rw [ex_19]; first | done | (exact nI_subN (by omega))
            refine lv_sipush (v := 500) hx hb d_Md_split_55 (by decide) ?_
            refine lv_icmp_le (tgt := 63) hx hb d_Md_split_58 (by decide) (fun c_58 => ?_) (fun c_58 => ?_)
            · have n_58 : (k + 1 - A9) ≤ 500 := (nI_leI (a := (k + 1 - A9)) (b := 500) (by omega) (by omega)).mp c_58
              refine lv_iload_n hx hb d_Md_split_63 rfl (lv_at hl 1 rfl) ?_
              refine lv_sipush (v := 200) hx hb d_Md_split_64 (by decide) ?_
              refine lv_icmp_ge (tgt := 89) hx hb d_Md_split_67 (by decide) (fun c_67 => ?_) (fun c_67 => ?_)
              · have n_67 : 200 ≤ tq := (nI_leI (a := 200) (b := tq) (by omega) (by omega)).mp c_67
                refine lv_iinc (v := nI (tq + 1)) (lv' := [(1, .int (nI (tq + 1))), (0, .ref md), (2, .int lg), (3, .int (nI A9)), (4, .int (nI k))]) hx hb d_Md_split_89 hl (k := 1) rfl (by exact nI_add _ _) (by decide) rfl (fun ls hl => ?_)
                refine lv_iload hx hb d_Md_split_92 (lv_at hl 4 rfl) ?_
                refine lv_iconst (v := 1) hx hb d_Md_split_94 (by decide) ?_
                refine lv_iadd hx hb d_Md_split_95 ?_
                refine lv_topi (fun x_20 ex_20 => ?_)
                obtain rfl : x_20 = nI (k + 1) := by rw [ex_20]; first | done | (exact nI_add _ _)
                refine lv_istore_n (lv' := [(3, .int (nI (k + 1))), (1, .int (nI (tq + 1))), (0, .ref md), (2, .int lg), (4, .int (nI k))]) hx hb d_Md_split_96 rfl hl (by decide) rfl (fun ls hl => ?_)
                refine lv_iinc (v := nI (k + 1)) (lv' := [(4, .int (nI (k + 1))), (3, .int (nI (k + 1))), (1, .int (nI (tq + 1))), (0, .ref md), (2, .int lg)]) hx hb d_Md_split_97 hl (k := 4) rfl (by exact nI_add _ _) (by decide) rfl (fun ls hl => ?_)
                refine lv_goto (tgt := 14) hx hb d_Md_split_100 (by decide) ?_
                exact ih_14 (k + 1) (k + 1) (tq + 1) (Pl ++ [(A9, k + 1 - A9)]) lg nwu nzu _ _ _ (by omega) (by omega) ((spS_yes hct).1.symm) (by rw [hPl, hA]; exact (spS_yes hct).2.symm) (by rw [List.length_append, htq]; rfl) (lg_no hlg n_58) (hsr.more (by omega)) hP hD hS (lv_sub hl [3, 2, 4, 1, 0] rfl)
              · have n_67 : tq < 200 := Nat.lt_of_not_le (fun z => c_67 ((nI_leI (a := 200) (b := tq) (by omega) (by omega)).mpr z))
                refine lv_aload_n hx hb d_Md_split_70 rfl (lv_at hl 0 rfl) ?_
                refine va_get (D := (dC, dI)) (ci := 12) (v := .ref nwM) (C := R_Md) (T := F_Md) (N := 83) hx hb hts i_Md hown hK hP 0 rfl rfl 74 (by decide) (hts _ gw_1492) (fun _ h9 => h9) rfl d_Md_split_71 ?_
                refine lv_iload_n hx hb d_Md_split_74 rfl (lv_at hl 1 rfl) ?_
                refine lv_iload_n hx hb d_Md_split_75 rfl (lv_at hl 3 rfl) ?_
                refine va_iast hx hb hK hP hD hS 2 0 rfl rfl (vp_in_nI (by omega) (by omega)) d_Md_split_76 (fun H locs hP hD hS => ?_)
                rw [show (nI tq).toNatClampNeg = tq from nI_clamp (by omega)] at hP hD
                have hP : va_P (dC, dI) classes [(md, .inr (12, [.ref tp, .int (nI tn), md_thrown, md_fault, md_bytes, md_used, md_at, md_length, md_depAt, md_firstChange, md_hashes, md_deps, md_patches, md_sort, md_of, md_fileOf, md_one, md_two, md_nameAt, md_nameSize, md_overAt, md_overCount, md_lineAt, md_lineCount, md_changes, md_overs, md_overTotal, md_lineChange, md_textAt, md_textSize, md_lines, md_fileChange, md_fileLines, md_files, md_sets, md_stamp, md_digest, md_in, md_pos, md_stop, md_wrong, md_dep, md_named, md_depCount, md_own, md_refFile, md_full, md_h, md_counts, md_marked, md_namings, md_namingCount, md_listed, md_listedCount, md_listedStamp, md_member, md_text, md_place, md_dead, md_edge, md_way, md_members, md_textLines, md_unsure, md_workedRepository, md_workedFile, md_workedStamp, md_stack, md_before, md_left, md_made, md_madeSize, md_need, md_needs, .ref nwM, .ref nzM, .int (nI 0), md_common, md_keptAs, md_isNew, md_keptFrom, md_stateOf, md_rising])), (tp, .inl (cB, 65536, .inl tf)), (nwM, .inl (cI, 201, .inl (upd nwu tq (nI A9)))), (nzM, .inl (cI, 201, .inl nzu))] H := hP
                have hD : va_D A [(md, .inr (12, [.ref tp, .int (nI tn), md_thrown, md_fault, md_bytes, md_used, md_at, md_length, md_depAt, md_firstChange, md_hashes, md_deps, md_patches, md_sort, md_of, md_fileOf, md_one, md_two, md_nameAt, md_nameSize, md_overAt, md_overCount, md_lineAt, md_lineCount, md_changes, md_overs, md_overTotal, md_lineChange, md_textAt, md_textSize, md_lines, md_fileChange, md_fileLines, md_files, md_sets, md_stamp, md_digest, md_in, md_pos, md_stop, md_wrong, md_dep, md_named, md_depCount, md_own, md_refFile, md_full, md_h, md_counts, md_marked, md_namings, md_namingCount, md_listed, md_listedCount, md_listedStamp, md_member, md_text, md_place, md_dead, md_edge, md_way, md_members, md_textLines, md_unsure, md_workedRepository, md_workedFile, md_workedStamp, md_stack, md_before, md_left, md_made, md_madeSize, md_need, md_needs, .ref nwM, .ref nzM, .int (nI 0), md_common, md_keptAs, md_isNew, md_keptFrom, md_stateOf, md_rising])), (tp, .inl (cB, 65536, .inl tf)), (nwM, .inl (cI, 201, .inl (upd nwu tq (nI A9)))), (nzM, .inl (cI, 201, .inl nzu))] := hD
                refine lv_aload_n hx hb d_Md_split_77 rfl (lv_at hl 0 rfl) ?_
                refine va_get (D := (dC, dI)) (ci := 12) (v := .ref nzM) (C := R_Md) (T := F_Md) (N := 83) hx hb hts i_Md hown hK hP 0 rfl rfl 75 (by decide) (hts _ gw_1493) (fun _ h9 => h9) rfl d_Md_split_78 ?_
                refine lv_iload_n hx hb d_Md_split_81 rfl (lv_at hl 1 rfl) ?_
                refine lv_iload hx hb d_Md_split_82 (lv_at hl 4 rfl) ?_
                refine lv_iconst (v := 1) hx hb d_Md_split_84 (by decide) ?_
                refine lv_iadd hx hb d_Md_split_85 ?_
                refine lv_topi (fun x_21 ex_21 => ?_)
                obtain rfl : x_21 = nI (k + 1) := by rw [ex_21]; first | done | (exact nI_add _ _)
                refine lv_iload_n hx hb d_Md_split_86 rfl (lv_at hl 3 rfl) ?_
                refine lv_isub hx hb d_Md_split_87 ?_
                refine lv_topi (fun x_22 ex_22 => ?_)
                obtain rfl : x_22 = nI (k + 1 - A9) := by rw [ex_22]; first | done | (exact nI_subN (by omega))
                refine va_iast hx hb hK hP hD hS 3 0 rfl rfl (vp_in_nI (by omega) (by omega)) d_Md_split_88 (fun H locs hP hD hS => ?_)
                rw [show (nI tq).toNatClampNeg = tq from nI_clamp (by omega)] at hP hD
                have hP : va_P (dC, dI) classes [(md, .inr (12, [.ref tp, .int (nI tn), md_thrown, md_fault, md_bytes, md_used, md_at, md_length, md_depAt, md_firstChange, md_hashes, md_deps, md_patches, md_sort, md_of, md_fileOf, md_one, md_two, md_nameAt, md_nameSize, md_overAt, md_overCount, md_lineAt, md_lineCount, md_changes, md_overs, md_overTotal, md_lineChange, md_textAt, md_textSize, md_lines, md_fileChange, md_fileLines, md_files, md_sets, md_stamp, md_digest, md_in, md_pos, md_stop, md_wrong, md_dep, md_named, md_depCount, md_own, md_refFile, md_full, md_h, md_counts, md_marked, md_namings, md_namingCount, md_listed, md_listedCount, md_listedStamp, md_member, md_text, md_place, md_dead, md_edge, md_way, md_members, md_textLines, md_unsure, md_workedRepository, md_workedFile, md_workedStamp, md_stack, md_before, md_left, md_made, md_madeSize, md_need, md_needs, .ref nwM, .ref nzM, .int (nI 0), md_common, md_keptAs, md_isNew, md_keptFrom, md_stateOf, md_rising])), (tp, .inl (cB, 65536, .inl tf)), (nwM, .inl (cI, 201, .inl (upd nwu tq (nI A9)))), (nzM, .inl (cI, 201, .inl (upd nzu tq (nI (k + 1 - A9)))))] H := hP
                have hD : va_D A [(md, .inr (12, [.ref tp, .int (nI tn), md_thrown, md_fault, md_bytes, md_used, md_at, md_length, md_depAt, md_firstChange, md_hashes, md_deps, md_patches, md_sort, md_of, md_fileOf, md_one, md_two, md_nameAt, md_nameSize, md_overAt, md_overCount, md_lineAt, md_lineCount, md_changes, md_overs, md_overTotal, md_lineChange, md_textAt, md_textSize, md_lines, md_fileChange, md_fileLines, md_files, md_sets, md_stamp, md_digest, md_in, md_pos, md_stop, md_wrong, md_dep, md_named, md_depCount, md_own, md_refFile, md_full, md_h, md_counts, md_marked, md_namings, md_namingCount, md_listed, md_listedCount, md_listedStamp, md_member, md_text, md_place, md_dead, md_edge, md_way, md_members, md_textLines, md_unsure, md_workedRepository, md_workedFile, md_workedStamp, md_stack, md_before, md_left, md_made, md_madeSize, md_need, md_needs, .ref nwM, .ref nzM, .int (nI 0), md_common, md_keptAs, md_isNew, md_keptFrom, md_stateOf, md_rising])), (tp, .inl (cB, 65536, .inl tf)), (nwM, .inl (cI, 201, .inl (upd nwu tq (nI A9)))), (nzM, .inl (cI, 201, .inl (upd nzu tq (nI (k + 1 - A9)))))] := hD
                refine lv_iinc (v := nI (tq + 1)) (lv' := [(1, .int (nI (tq + 1))), (0, .ref md), (2, .int lg), (3, .int (nI A9)), (4, .int (nI k))]) hx hb d_Md_split_89 hl (k := 1) rfl (by exact nI_add _ _) (by decide) rfl (fun ls hl => ?_)
                refine lv_iload hx hb d_Md_split_92 (lv_at hl 4 rfl) ?_
                refine lv_iconst (v := 1) hx hb d_Md_split_94 (by decide) ?_
                refine lv_iadd hx hb d_Md_split_95 ?_
                refine lv_topi (fun x_23 ex_23 => ?_)
                obtain rfl : x_23 = nI (k + 1) := by rw [ex_23]; first | done | (exact nI_add _ _)
                refine lv_istore_n (lv' := [(3, .int (nI (k + 1))), (1, .int (nI (tq + 1))), (0, .ref md), (2, .int lg), (4, .int (nI k))]) hx hb d_Md_split_96 rfl hl (by decide) rfl (fun ls hl => ?_)
                refine lv_iinc (v := nI (k + 1)) (lv' := [(4, .int (nI (k + 1))), (3, .int (nI (k + 1))), (1, .int (nI (tq + 1))), (0, .ref md), (2, .int lg)]) hx hb d_Md_split_97 hl (k := 4) rfl (by exact nI_add _ _) (by decide) rfl (fun ls hl => ?_)
                refine lv_goto (tgt := 14) hx hb d_Md_split_100 (by decide) ?_
                exact ih_14 (k + 1) (k + 1) (tq + 1) (Pl ++ [(A9, k + 1 - A9)]) lg (upd nwu tq (nI A9)) (upd nzu tq (nI (k + 1 - A9))) _ _ _ (by omega) (by omega) ((spS_yes hct).1.symm) (by rw [hPl, hA]; exact (spS_yes hct).2.symm) (by rw [List.length_append, htq]; rfl) (lg_no hlg n_58) (hsr.pushF htq) hP hD hS (lv_sub hl [3, 2, 4, 1, 0] rfl)
            · have n_58 : 500 < (k + 1 - A9) := Nat.lt_of_not_le (fun z => c_58 ((nI_leI (a := (k + 1 - A9)) (b := 500) (by omega) (by omega)).mpr z))
              refine lv_iconst (v := 1) hx hb d_Md_split_61 (by decide) ?_
              refine lv_istore_n (lv' := [(2, .int 1), (0, .ref md), (1, .int (nI tq)), (3, .int (nI A9)), (4, .int (nI k))]) hx hb d_Md_split_62 rfl hl (by decide) rfl (fun ls hl => ?_)
              refine lv_iload_n hx hb d_Md_split_63 rfl (lv_at hl 2 rfl) ?_
              refine lv_sipush (v := 200) hx hb d_Md_split_64 (by decide) ?_
              refine lv_icmp_ge (tgt := 89) hx hb d_Md_split_67 (by decide) (fun c_67 => ?_) (fun c_67 => ?_)
              · have n_67 : 200 ≤ tq := (nI_leI (a := 200) (b := tq) (by omega) (by omega)).mp c_67
                refine lv_iinc (v := nI (tq + 1)) (lv' := [(1, .int (nI (tq + 1))), (2, .int 1), (0, .ref md), (3, .int (nI A9)), (4, .int (nI k))]) hx hb d_Md_split_89 hl (k := 2) rfl (by exact nI_add _ _) (by decide) rfl (fun ls hl => ?_)
                refine lv_iload hx hb d_Md_split_92 (lv_at hl 4 rfl) ?_
                refine lv_iconst (v := 1) hx hb d_Md_split_94 (by decide) ?_
                refine lv_iadd hx hb d_Md_split_95 ?_
                refine lv_topi (fun x_24 ex_24 => ?_)
                obtain rfl : x_24 = nI (k + 1) := by rw [ex_24]; first | done | (exact nI_add _ _)
                refine lv_istore_n (lv' := [(3, .int (nI (k + 1))), (1, .int (nI (tq + 1))), (2, .int 1), (0, .ref md), (4, .int (nI k))]) hx hb d_Md_split_96 rfl hl (by decide) rfl (fun ls hl => ?_)
                refine lv_iinc (v := nI (k + 1)) (lv' := [(4, .int (nI (k + 1))), (3, .int (nI (k + 1))), (1, .int (nI (tq + 1))), (2, .int 1), (0, .ref md)]) hx hb d_Md_split_97 hl (k := 4) rfl (by exact nI_add _ _) (by decide) rfl (fun ls hl => ?_)
                refine lv_goto (tgt := 14) hx hb d_Md_split_100 (by decide) ?_
                exact ih_14 (k + 1) (k + 1) (tq + 1) (Pl ++ [(A9, k + 1 - A9)]) 1 nwu nzu _ _ _ (by omega) (by omega) ((spS_yes hct).1.symm) (by rw [hPl, hA]; exact (spS_yes hct).2.symm) (by rw [List.length_append, htq]; rfl) (lg_yes n_58) (hsr.more (by omega)) hP hD hS (lv_sub hl [4, 2, 3, 1, 0] rfl)
              · have n_67 : tq < 200 := Nat.lt_of_not_le (fun z => c_67 ((nI_leI (a := 200) (b := tq) (by omega) (by omega)).mpr z))
                refine lv_aload_n hx hb d_Md_split_70 rfl (lv_at hl 1 rfl) ?_
                refine va_get (D := (dC, dI)) (ci := 12) (v := .ref nwM) (C := R_Md) (T := F_Md) (N := 83) hx hb hts i_Md hown hK hP 0 rfl rfl 74 (by decide) (hts _ gw_1492) (fun _ h9 => h9) rfl d_Md_split_71 ?_
                refine lv_iload_n hx hb d_Md_split_74 rfl (lv_at hl 2 rfl) ?_
                refine lv_iload_n hx hb d_Md_split_75 rfl (lv_at hl 3 rfl) ?_
                refine va_iast hx hb hK hP hD hS 2 0 rfl rfl (vp_in_nI (by omega) (by omega)) d_Md_split_76 (fun H locs hP hD hS => ?_)
                rw [show (nI tq).toNatClampNeg = tq from nI_clamp (by omega)] at hP hD
                have hP : va_P (dC, dI) classes [(md, .inr (12, [.ref tp, .int (nI tn), md_thrown, md_fault, md_bytes, md_used, md_at, md_length, md_depAt, md_firstChange, md_hashes, md_deps, md_patches, md_sort, md_of, md_fileOf, md_one, md_two, md_nameAt, md_nameSize, md_overAt, md_overCount, md_lineAt, md_lineCount, md_changes, md_overs, md_overTotal, md_lineChange, md_textAt, md_textSize, md_lines, md_fileChange, md_fileLines, md_files, md_sets, md_stamp, md_digest, md_in, md_pos, md_stop, md_wrong, md_dep, md_named, md_depCount, md_own, md_refFile, md_full, md_h, md_counts, md_marked, md_namings, md_namingCount, md_listed, md_listedCount, md_listedStamp, md_member, md_text, md_place, md_dead, md_edge, md_way, md_members, md_textLines, md_unsure, md_workedRepository, md_workedFile, md_workedStamp, md_stack, md_before, md_left, md_made, md_madeSize, md_need, md_needs, .ref nwM, .ref nzM, .int (nI 0), md_common, md_keptAs, md_isNew, md_keptFrom, md_stateOf, md_rising])), (tp, .inl (cB, 65536, .inl tf)), (nwM, .inl (cI, 201, .inl (upd nwu tq (nI A9)))), (nzM, .inl (cI, 201, .inl nzu))] H := hP
                have hD : va_D A [(md, .inr (12, [.ref tp, .int (nI tn), md_thrown, md_fault, md_bytes, md_used, md_at, md_length, md_depAt, md_firstChange, md_hashes, md_deps, md_patches, md_sort, md_of, md_fileOf, md_one, md_two, md_nameAt, md_nameSize, md_overAt, md_overCount, md_lineAt, md_lineCount, md_changes, md_overs, md_overTotal, md_lineChange, md_textAt, md_textSize, md_lines, md_fileChange, md_fileLines, md_files, md_sets, md_stamp, md_digest, md_in, md_pos, md_stop, md_wrong, md_dep, md_named, md_depCount, md_own, md_refFile, md_full, md_h, md_counts, md_marked, md_namings, md_namingCount, md_listed, md_listedCount, md_listedStamp, md_member, md_text, md_place, md_dead, md_edge, md_way, md_members, md_textLines, md_unsure, md_workedRepository, md_workedFile, md_workedStamp, md_stack, md_before, md_left, md_made, md_madeSize, md_need, md_needs, .ref nwM, .ref nzM, .int (nI 0), md_common, md_keptAs, md_isNew, md_keptFrom, md_stateOf, md_rising])), (tp, .inl (cB, 65536, .inl tf)), (nwM, .inl (cI, 201, .inl (upd nwu tq (nI A9)))), (nzM, .inl (cI, 201, .inl nzu))] := hD
                refine lv_aload_n hx hb d_Md_split_77 rfl (lv_at hl 1 rfl) ?_
                refine va_get (D := (dC, dI)) (ci := 12) (v := .ref nzM) (C := R_Md) (T := F_Md) (N := 83) hx hb hts i_Md hown hK hP 0 rfl rfl 75 (by decide) (hts _ gw_1493) (fun _ h9 => h9) rfl d_Md_split_78 ?_
                refine lv_iload_n hx hb d_Md_split_81 rfl (lv_at hl 2 rfl) ?_
                refine lv_iload hx hb d_Md_split_82 (lv_at hl 4 rfl) ?_
                refine lv_iconst (v := 1) hx hb d_Md_split_84 (by decide) ?_
                refine lv_iadd hx hb d_Md_split_85 ?_
                refine lv_topi (fun x_25 ex_25 => ?_)
                obtain rfl : x_25 = nI (k + 1) := by rw [ex_25]; first | done | (exact nI_add _ _)
                refine lv_iload_n hx hb d_Md_split_86 rfl (lv_at hl 3 rfl) ?_
                refine lv_isub hx hb d_Md_split_87 ?_
                refine lv_topi (fun x_26 ex_26 => ?_)
                obtain rfl : x_26 = nI (k + 1 - A9) := by rw [ex_26]; first | done | (exact nI_subN (by omega))
                refine va_iast hx hb hK hP hD hS 3 0 rfl rfl (vp_in_nI (by omega) (by omega)) d_Md_split_88 (fun H locs hP hD hS => ?_)
                rw [show (nI tq).toNatClampNeg = tq from nI_clamp (by omega)] at hP hD
                have hP : va_P (dC, dI) classes [(md, .inr (12, [.ref tp, .int (nI tn), md_thrown, md_fault, md_bytes, md_used, md_at, md_length, md_depAt, md_firstChange, md_hashes, md_deps, md_patches, md_sort, md_of, md_fileOf, md_one, md_two, md_nameAt, md_nameSize, md_overAt, md_overCount, md_lineAt, md_lineCount, md_changes, md_overs, md_overTotal, md_lineChange, md_textAt, md_textSize, md_lines, md_fileChange, md_fileLines, md_files, md_sets, md_stamp, md_digest, md_in, md_pos, md_stop, md_wrong, md_dep, md_named, md_depCount, md_own, md_refFile, md_full, md_h, md_counts, md_marked, md_namings, md_namingCount, md_listed, md_listedCount, md_listedStamp, md_member, md_text, md_place, md_dead, md_edge, md_way, md_members, md_textLines, md_unsure, md_workedRepository, md_workedFile, md_workedStamp, md_stack, md_before, md_left, md_made, md_madeSize, md_need, md_needs, .ref nwM, .ref nzM, .int (nI 0), md_common, md_keptAs, md_isNew, md_keptFrom, md_stateOf, md_rising])), (tp, .inl (cB, 65536, .inl tf)), (nwM, .inl (cI, 201, .inl (upd nwu tq (nI A9)))), (nzM, .inl (cI, 201, .inl (upd nzu tq (nI (k + 1 - A9)))))] H := hP
                have hD : va_D A [(md, .inr (12, [.ref tp, .int (nI tn), md_thrown, md_fault, md_bytes, md_used, md_at, md_length, md_depAt, md_firstChange, md_hashes, md_deps, md_patches, md_sort, md_of, md_fileOf, md_one, md_two, md_nameAt, md_nameSize, md_overAt, md_overCount, md_lineAt, md_lineCount, md_changes, md_overs, md_overTotal, md_lineChange, md_textAt, md_textSize, md_lines, md_fileChange, md_fileLines, md_files, md_sets, md_stamp, md_digest, md_in, md_pos, md_stop, md_wrong, md_dep, md_named, md_depCount, md_own, md_refFile, md_full, md_h, md_counts, md_marked, md_namings, md_namingCount, md_listed, md_listedCount, md_listedStamp, md_member, md_text, md_place, md_dead, md_edge, md_way, md_members, md_textLines, md_unsure, md_workedRepository, md_workedFile, md_workedStamp, md_stack, md_before, md_left, md_made, md_madeSize, md_need, md_needs, .ref nwM, .ref nzM, .int (nI 0), md_common, md_keptAs, md_isNew, md_keptFrom, md_stateOf, md_rising])), (tp, .inl (cB, 65536, .inl tf)), (nwM, .inl (cI, 201, .inl (upd nwu tq (nI A9)))), (nzM, .inl (cI, 201, .inl (upd nzu tq (nI (k + 1 - A9)))))] := hD
                refine lv_iinc (v := nI (tq + 1)) (lv' := [(1, .int (nI (tq + 1))), (2, .int 1), (0, .ref md), (3, .int (nI A9)), (4, .int (nI k))]) hx hb d_Md_split_89 hl (k := 2) rfl (by exact nI_add _ _) (by decide) rfl (fun ls hl => ?_)
                refine lv_iload hx hb d_Md_split_92 (lv_at hl 4 rfl) ?_
                refine lv_iconst (v := 1) hx hb d_Md_split_94 (by decide) ?_
                refine lv_iadd hx hb d_Md_split_95 ?_
                refine lv_topi (fun x_27 ex_27 => ?_)
                obtain rfl : x_27 = nI (k + 1) := by rw [ex_27]; first | done | (exact nI_add _ _)
                refine lv_istore_n (lv' := [(3, .int (nI (k + 1))), (1, .int (nI (tq + 1))), (2, .int 1), (0, .ref md), (4, .int (nI k))]) hx hb d_Md_split_96 rfl hl (by decide) rfl (fun ls hl => ?_)
                refine lv_iinc (v := nI (k + 1)) (lv' := [(4, .int (nI (k + 1))), (3, .int (nI (k + 1))), (1, .int (nI (tq + 1))), (2, .int 1), (0, .ref md)]) hx hb d_Md_split_97 hl (k := 4) rfl (by exact nI_add _ _) (by decide) rfl (fun ls hl => ?_)
                refine lv_goto (tgt := 14) hx hb d_Md_split_100 (by decide) ?_
                exact ih_14 (k + 1) (k + 1) (tq + 1) (Pl ++ [(A9, k + 1 - A9)]) 1 (upd nwu tq (nI A9)) (upd nzu tq (nI (k + 1 - A9))) _ _ _ (by omega) (by omega) ((spS_yes hct).1.symm) (by rw [hPl, hA]; exact (spS_yes hct).2.symm) (by rw [List.length_append, htq]; rfl) (lg_yes n_58) (hsr.pushF htq) hP hD hS (lv_sub hl [4, 2, 3, 1, 0] rfl)
          · have n_43 : k < (tn - 1) := Nat.lt_of_not_le (fun z => c_43 ((nI_leI (a := (tn - 1)) (b := k) (by omega) (by omega)).mpr z))
            have hct : ¬ (tf k = 10 ∨ k + 1 = tn) := fun z => z.elim c_32 (fun z => by omega)
            refine lv_goto (tgt := 97) hx hb d_Md_split_46 (by decide) ?_
            refine lv_iinc (v := nI (k + 1)) (lv' := [(4, .int (nI (k + 1))), (0, .ref md), (1, .int (nI tq)), (2, .int lg), (3, .int (nI A9))]) hx hb d_Md_split_97 hl (k := 4) rfl (by exact nI_add _ _) (by decide) rfl (fun ls hl => ?_)
            refine lv_goto (tgt := 14) hx hb d_Md_split_100 (by decide) ?_
            exact ih_14 (k + 1) A9 tq Pl lg nwu nzu _ _ _ (by omega) (by omega) (hA.trans (spS_no hct).1.symm) (hPl.trans (spS_no hct).2.symm) (htq) (hlg) (hsr) hP hD hS (lv_sub hl [1, 2, 3, 4, 0] rfl)
  exact loop_14 _ 0 0 0 ([]) 0 nw nz _ _ _ (Nat.lt_succ_self _) (Nat.zero_le _) (rfl) (rfl) (rfl) (Or.inr ⟨rfl, fun ⟨x, z, _⟩ => by cases z⟩) (fun i z => absurd z (Nat.not_lt_zero _)) hP hD hS (lv_sub hl [4, 3, 2, 1, 0] rfl)
