section
/-! 99zn.store.lean.txt -/
theorem gw_1832 : (Jvm.Cond.methodLink "PatchStoreModel" (361 : Nat) ({ cls := "java/lang/System", name := "arraycopy", desc := "(Ljava/lang/Object;ILjava/lang/Object;II)V" } : Jvm.MethodName)) ∈ xg_1 := xg_s8 152 rfl rfl
def y_Md_store : MethodName := ⟨"PatchStoreModel", "store", "([BI)V"⟩
abbrev c_Md_store : Cond := (Jvm.Cond.code ({ cls := "PatchStoreModel", name := "store", desc := "([BI)V" } : Jvm.MethodName) prog_14_method_29_code (5 : Nat) (Option.none : Option Jvm.ClassFile.FieldType))
abbrev ws_Md_store : List Cond := c_Md_store :: xg_1
theorem d_Md_store_0 : decode prog_14_method_29_code 0 = .ok (.aload_n 0, 1) := by decide +kernel
theorem d_Md_store_1 : decode prog_14_method_29_code 1 = .ok (.dup, 1) := by decide +kernel
theorem d_Md_store_2 : decode prog_14_method_29_code 2 = .ok (.getfield 52, 3) := by decide +kernel
theorem d_Md_store_5 : decode prog_14_method_29_code 5 = .ok (.dup_x1, 1) := by decide +kernel
theorem d_Md_store_6 : decode prog_14_method_29_code 6 = .ok (.iconst 1, 1) := by decide +kernel
theorem d_Md_store_7 : decode prog_14_method_29_code 7 = .ok (.iadd, 1) := by decide +kernel
theorem d_Md_store_8 : decode prog_14_method_29_code 8 = .ok (.putfield 52, 3) := by decide +kernel
theorem d_Md_store_11 : decode prog_14_method_29_code 11 = .ok (.istore_n 3, 1) := by decide +kernel
theorem d_Md_store_12 : decode prog_14_method_29_code 12 = .ok (.aload_n 1, 1) := by decide +kernel
theorem d_Md_store_13 : decode prog_14_method_29_code 13 = .ok (.iconst 0, 1) := by decide +kernel
theorem d_Md_store_14 : decode prog_14_method_29_code 14 = .ok (.aload_n 0, 1) := by decide +kernel
theorem d_Md_store_15 : decode prog_14_method_29_code 15 = .ok (.getfield 25, 3) := by decide +kernel
theorem d_Md_store_18 : decode prog_14_method_29_code 18 = .ok (.aload_n 0, 1) := by decide +kernel
theorem d_Md_store_19 : decode prog_14_method_29_code 19 = .ok (.getfield 28, 3) := by decide +kernel
theorem d_Md_store_22 : decode prog_14_method_29_code 22 = .ok (.iload_n 2, 1) := by decide +kernel
theorem d_Md_store_23 : decode prog_14_method_29_code 23 = .ok (.invokestatic 361, 3) := by decide +kernel
theorem d_Md_store_26 : decode prog_14_method_29_code 26 = .ok (.aload_n 0, 1) := by decide +kernel
theorem d_Md_store_27 : decode prog_14_method_29_code 27 = .ok (.getfield 31, 3) := by decide +kernel
theorem d_Md_store_30 : decode prog_14_method_29_code 30 = .ok (.iload_n 3, 1) := by decide +kernel
theorem d_Md_store_31 : decode prog_14_method_29_code 31 = .ok (.aload_n 0, 1) := by decide +kernel
theorem d_Md_store_32 : decode prog_14_method_29_code 32 = .ok (.getfield 28, 3) := by decide +kernel
theorem d_Md_store_35 : decode prog_14_method_29_code 35 = .ok (.iastore, 1) := by decide +kernel
theorem d_Md_store_36 : decode prog_14_method_29_code 36 = .ok (.aload_n 0, 1) := by decide +kernel
theorem d_Md_store_37 : decode prog_14_method_29_code 37 = .ok (.getfield 35, 3) := by decide +kernel
theorem d_Md_store_40 : decode prog_14_method_29_code 40 = .ok (.iload_n 3, 1) := by decide +kernel
theorem d_Md_store_41 : decode prog_14_method_29_code 41 = .ok (.iload_n 2, 1) := by decide +kernel
theorem d_Md_store_42 : decode prog_14_method_29_code 42 = .ok (.iastore, 1) := by decide +kernel
theorem d_Md_store_43 : decode prog_14_method_29_code 43 = .ok (.aload_n 0, 1) := by decide +kernel
theorem d_Md_store_44 : decode prog_14_method_29_code 44 = .ok (.dup, 1) := by decide +kernel
theorem d_Md_store_45 : decode prog_14_method_29_code 45 = .ok (.getfield 28, 3) := by decide +kernel
theorem d_Md_store_48 : decode prog_14_method_29_code 48 = .ok (.iload_n 2, 1) := by decide +kernel
theorem d_Md_store_49 : decode prog_14_method_29_code 49 = .ok (.iadd, 1) := by decide +kernel
theorem d_Md_store_50 : decode prog_14_method_29_code 50 = .ok (.putfield 28, 3) := by decide +kernel
theorem d_Md_store_53 : decode prog_14_method_29_code 53 = .ok (.aload_n 0, 1) := by decide +kernel
theorem d_Md_store_54 : decode prog_14_method_29_code 54 = .ok (.getfield 45, 3) := by decide +kernel
theorem d_Md_store_57 : decode prog_14_method_29_code 57 = .ok (.iload_n 3, 1) := by decide +kernel
theorem d_Md_store_58 : decode prog_14_method_29_code 58 = .ok (.bipush 32, 2) := by decide +kernel
theorem d_Md_store_60 : decode prog_14_method_29_code 60 = .ok (.newarray .byte, 2) := by decide +kernel
theorem d_Md_store_62 : decode prog_14_method_29_code 62 = .ok (.aastore, 1) := by decide +kernel
theorem d_Md_store_63 : decode prog_14_method_29_code 63 = .ok (.aload_n 0, 1) := by decide +kernel
theorem d_Md_store_64 : decode prog_14_method_29_code 64 = .ok (.getfield 167, 3) := by decide +kernel
theorem d_Md_store_67 : decode prog_14_method_29_code 67 = .ok (.iconst 0, 1) := by decide +kernel
theorem d_Md_store_68 : decode prog_14_method_29_code 68 = .ok (.aload_n 0, 1) := by decide +kernel
theorem d_Md_store_69 : decode prog_14_method_29_code 69 = .ok (.getfield 45, 3) := by decide +kernel
theorem d_Md_store_72 : decode prog_14_method_29_code 72 = .ok (.iload_n 3, 1) := by decide +kernel
theorem d_Md_store_73 : decode prog_14_method_29_code 73 = .ok (.aaload, 1) := by decide +kernel
theorem d_Md_store_74 : decode prog_14_method_29_code 74 = .ok (.iconst 0, 1) := by decide +kernel
theorem d_Md_store_75 : decode prog_14_method_29_code 75 = .ok (.bipush 32, 2) := by decide +kernel
theorem d_Md_store_77 : decode prog_14_method_29_code 77 = .ok (.invokestatic 361, 3) := by decide +kernel
theorem d_Md_store_80 : decode prog_14_method_29_code 80 = .ok (.iconst 0, 1) := by decide +kernel
theorem d_Md_store_81 : decode prog_14_method_29_code 81 = .ok (.istore 4, 2) := by decide +kernel
theorem d_Md_store_83 : decode prog_14_method_29_code 83 = .ok (.iload 4, 2) := by decide +kernel
theorem d_Md_store_85 : decode prog_14_method_29_code 85 = .ok (.aload_n 0, 1) := by decide +kernel
theorem d_Md_store_86 : decode prog_14_method_29_code 86 = .ok (.getfield 155, 3) := by decide +kernel
theorem d_Md_store_89 : decode prog_14_method_29_code 89 = .ok (.if_icmp .ge 30, 3) := by decide +kernel
theorem d_Md_store_92 : decode prog_14_method_29_code 92 = .ok (.aload_n 0, 1) := by decide +kernel
theorem d_Md_store_93 : decode prog_14_method_29_code 93 = .ok (.getfield 49, 3) := by decide +kernel
theorem d_Md_store_96 : decode prog_14_method_29_code 96 = .ok (.aload_n 0, 1) := by decide +kernel
theorem d_Md_store_97 : decode prog_14_method_29_code 97 = .ok (.getfield 38, 3) := by decide +kernel
theorem d_Md_store_100 : decode prog_14_method_29_code 100 = .ok (.iload_n 3, 1) := by decide +kernel
theorem d_Md_store_101 : decode prog_14_method_29_code 101 = .ok (.iaload, 1) := by decide +kernel
theorem d_Md_store_102 : decode prog_14_method_29_code 102 = .ok (.iload 4, 2) := by decide +kernel
theorem d_Md_store_104 : decode prog_14_method_29_code 104 = .ok (.iadd, 1) := by decide +kernel
theorem d_Md_store_105 : decode prog_14_method_29_code 105 = .ok (.aload_n 0, 1) := by decide +kernel
theorem d_Md_store_106 : decode prog_14_method_29_code 106 = .ok (.getfield 148, 3) := by decide +kernel
theorem d_Md_store_109 : decode prog_14_method_29_code 109 = .ok (.iload 4, 2) := by decide +kernel
theorem d_Md_store_111 : decode prog_14_method_29_code 111 = .ok (.iaload, 1) := by decide +kernel
theorem d_Md_store_112 : decode prog_14_method_29_code 112 = .ok (.iastore, 1) := by decide +kernel
theorem d_Md_store_113 : decode prog_14_method_29_code 113 = .ok (.iinc 4 1, 3) := by decide +kernel
theorem d_Md_store_116 : decode prog_14_method_29_code 116 = .ok (.goto (-33), 3) := by decide +kernel
theorem d_Md_store_119 : decode prog_14_method_29_code 119 = .ok (.aload_n 0, 1) := by decide +kernel
theorem d_Md_store_120 : decode prog_14_method_29_code 120 = .ok (.getfield 38, 3) := by decide +kernel
theorem d_Md_store_123 : decode prog_14_method_29_code 123 = .ok (.iload_n 3, 1) := by decide +kernel
theorem d_Md_store_124 : decode prog_14_method_29_code 124 = .ok (.iconst 1, 1) := by decide +kernel
theorem d_Md_store_125 : decode prog_14_method_29_code 125 = .ok (.iadd, 1) := by decide +kernel
theorem d_Md_store_126 : decode prog_14_method_29_code 126 = .ok (.aload_n 0, 1) := by decide +kernel
theorem d_Md_store_127 : decode prog_14_method_29_code 127 = .ok (.getfield 38, 3) := by decide +kernel
theorem d_Md_store_130 : decode prog_14_method_29_code 130 = .ok (.iload_n 3, 1) := by decide +kernel
theorem d_Md_store_131 : decode prog_14_method_29_code 131 = .ok (.iaload, 1) := by decide +kernel
theorem d_Md_store_132 : decode prog_14_method_29_code 132 = .ok (.aload_n 0, 1) := by decide +kernel
theorem d_Md_store_133 : decode prog_14_method_29_code 133 = .ok (.getfield 155, 3) := by decide +kernel
theorem d_Md_store_136 : decode prog_14_method_29_code 136 = .ok (.iadd, 1) := by decide +kernel
theorem d_Md_store_137 : decode prog_14_method_29_code 137 = .ok (.iastore, 1) := by decide +kernel
theorem d_Md_store_138 : decode prog_14_method_29_code 138 = .ok (.aload_n 0, 1) := by decide +kernel
theorem d_Md_store_139 : decode prog_14_method_29_code 139 = .ok (.getfield 41, 3) := by decide +kernel
theorem d_Md_store_142 : decode prog_14_method_29_code 142 = .ok (.iload_n 3, 1) := by decide +kernel
theorem d_Md_store_143 : decode prog_14_method_29_code 143 = .ok (.iconst 1, 1) := by decide +kernel
theorem d_Md_store_144 : decode prog_14_method_29_code 144 = .ok (.iadd, 1) := by decide +kernel
theorem d_Md_store_145 : decode prog_14_method_29_code 145 = .ok (.aload_n 0, 1) := by decide +kernel
theorem d_Md_store_146 : decode prog_14_method_29_code 146 = .ok (.getfield 89, 3) := by decide +kernel
theorem d_Md_store_149 : decode prog_14_method_29_code 149 = .ok (.iastore, 1) := by decide +kernel
theorem d_Md_store_150 : decode prog_14_method_29_code 150 = .ok (.return_, 1) := by decide +kernel
section XQS
variable {p : Program} {l : Launch} {e : Env} {R : Room} {s : State} {m : MethodId} {args : Array Value} {below : List Frame} {meth : Method} {c : Code} {H : Heap} {locs : List Loc} {cells slots : Nat} {Q : State → Prop}
variable {cc : ByteArray} {pc : Nat} {ls : Array Slot} {rest : List Value} {D : va_G} {cl : List vw_C} {A : Nat → Prop} {a : Nat} {tys : List (ClassId × FieldType)} {ws : va_W} {H0 : Heap}
theorem xq_assign (vm : Vm) (c0 : ClassId) : vm.assignable c0 c0 = true := by
  show vm.assignableAux (255 + 1) c0 c0 = true
  rw [Vm.assignableAux]
  simp only [beq_self_eq_true, Bool.true_or]
/-- a row of bytes is put into an array of them -/
theorem xq_ast (hexec : p.tables.exec = Jvm.exec) (hb : c.code = cc) (hK : va_K D cl tys s) (hP : va_P D cl ws H) (hD : va_D A ws) (hS : va_S A H0 H locs) (q0 t0 t1 k0 : Nat) {cA cE : ClassId} {n v N : Nat} {f : Nat → Option Nat} {g : Nat → Int32} (ha : ws[q0]? = some (a, .inl (cA, n, .inr (.inr (.inr (.inr f)))))) (ht : tys[t0]? = some (cA, .array .byte)) (hE : tys[t1]? = some (cE, .byte)) (hv : ws[k0]? = some (v, .inl (cE, N, .inl g))) (hover : xa_T (.array .byte) s) {i : Int32} (hin : vp_in i n) (hdg : decode cc pc = .ok (.aastore, 1))
    (kk : ∀ (H1 : Heap) (locs1 : List Loc), va_P D cl (ws.set q0 (a, .inl (cA, n, .inr (.inr (.inr (.inr (va_up f i.toNatClampNeg (some v)))))))) H1 → va_D A (ws.set q0 (a, .inl (cA, n, .inr (.inr (.inr (.inr (va_up f i.toNatClampNeg (some v)))))))) → va_S A H0 H1 locs1 → W p l e R s m args below meth c H1 locs1 cells slots Q (F0 m (pc + 1) ls rest)) : W p l e R s m args below meth c H locs cells slots Q (F0 m pc ls (.ref v :: .int i :: .ref a :: rest)) := by
  have hlt : i.toNatClampNeg < n := Nat.not_le.mp fun q => hin (Or.inr q)
  have h0 : ¬ i < 0 := fun q => hin (Or.inl q)
  obtain ⟨comp, cA2, kA, f1, -, f2, f3, f4⟩ := Jvm.Stand.arrayOver_specB hover
  have hcA : cA2 = cA := Option.some.inj (f4.symm.trans (hK.2 t0 _ ht).2)
  subst hcA
  have hcE : comp = cE := Option.some.inj (f1.symm.trans (hK.2 t1 _ hE).2)
  subst hcE
  obtain ⟨-, kE, e2, comp2, e3⟩ := (hK.2 t1 _ hE).1 N (fun j => .int (g j))
  have g1 := hP k0 _ hv
  refine W.aast hexec hb (hP q0 _ ha) (fun q h => by cases h) (fun h => by cases h) f2 f3 rfl e2 ⟨h0, by show _ < (arrV _ _ _).slots.size; rw [arrV_size]; exact hlt⟩ g1 (fun q h => by cases h) e2 (xq_assign _ _) rfl rfl hdg fun H1 e z oq => ?_
  refine kk H1 _ (hP.set hD ha ?_ oq) (hD.set ha) (hS.put z oq (hD.2 q0 _ ha))
  show H1[a]? = some (vp_cell _ _)
  rw [e]
  rw [vp_cell_q, vp_cell_q, arrV_store]
  congr 2
  funext q
  by_cases hq : q = i.toNatClampNeg
  · subst hq
    simp [updV, va_up, va_rf]
  · simp [updV, va_up, hq]
end XQS
section GDP
variable {cI cB cZ : ClassId} {g : Gr} {X : va_W} {n q : Nat} {r r' : Nat → Int32}
theorem gA_pHl (hn : X.length = n) : (X ++ gdA cI cB cZ (g.pH q r))[n + (1002 + g.n)]? = some (q, .inl (cB, 32, .inl r)) := by
  rw [gA_H hn (show g.n < g.n + 1 by omega)]
  show some (va_up g.ah g.n q g.n, Sum.inl (cB, 32, Sum.inl (va_up g.H g.n r g.n))) = _
  rw [va_up_self, va_up_self]
theorem gA_pHs (hn : X.length = n) : (X ++ gdA cI cB cZ (g.pH q r)).set (n + (1002 + g.n)) (q, .inl (cB, 32, .inl r')) = X ++ gdA cI cB cZ (g.pH q r') := by
  have h := gA_sH (cI := cI) (cB := cB) (cZ := cZ) (g := g.pH q r) (r := r') (i := g.n) hn (show g.n < g.n + 1 by omega)
  rw [show (g.pH q r).ah g.n = q from va_up_self _ _ _] at h
  rw [h]
  congr 2
  show (g.ae, g.aw, g.ac, va_up g.ah g.n q, g.E, g.W, g.C, va_up (va_up g.H g.n r) g.n r', g.n + 1) = (g.ae, g.aw, g.ac, va_up g.ah g.n q, g.E, g.W, g.C, va_up g.H g.n r', g.n + 1)
  rw [show va_up (va_up g.H g.n r) g.n r' = va_up g.H g.n r' from by
    funext j
    by_cases e : j = g.n
    · subst e; rw [va_up_self, va_up_self]
    · rw [va_up_ne _ _ e, va_up_ne _ _ e, va_up_ne _ _ e]]
end GDP
set_option maxHeartbeats 4000000 in
set_option maxRecDepth 100000 in
/-- a patch is kept -/
theorem m_Md_store (l : Launch) (dC : Nat → ClassId) (dI : Nat → Nat → Nat) (cI cB cL cZ cR cBB cZZ cII : ClassId) (md inA byM atM leM hsA hM dsM daM dpM fcM NI : Nat) (md_tape md_size md_thrown md_fault md_sort md_of md_fileOf md_one md_two md_nameAt md_nameSize md_overAt md_overCount md_lineAt md_lineCount md_overs md_overTotal md_lineChange md_textAt md_textSize md_lines md_fileChange md_fileLines md_files md_sets md_stamp md_digest md_in md_pos md_stop md_wrong md_named md_own md_refFile md_full md_counts md_marked md_namings md_namingCount md_listed md_listedCount md_listedStamp md_member md_text md_place md_dead md_edge md_way md_members md_textLines md_unsure md_workedRepository md_workedFile md_workedStamp md_stack md_before md_left md_made md_madeSize md_need md_needs md_newAt md_newSize md_news md_common md_keptAs md_isNew md_keptFrom md_stateOf md_rising : Value) (gi by9 at9 le9 h9 ds da dpf fcf : Nat → Int32) (gh : Nat → Option Nat) (G : Gr) (P9 us n nd cc D9 : Nat) (sz : Nat) (hGn : G.n = P9) (hP5 : P9 < 500) (hn : n ≤ NI) (hNI : NI ≤ 200000) (hus : us + n ≤ 200000) (hgb : ∀ j, j < NI → fits .byte (.int (gi j)) = true) (hhb : ∀ j, j < 32 → fits .byte (.int (h9 j)) = true) (hda : da P9 = nI D9) (hD9 : D9 + nd ≤ 7000) (hnd : nd ≤ 2048) : Met l y_Md_store ws_Md_store ({ frames := 1, cells := 1, slots := 32, locals := 60 }) (xw_Px dC dI [(cI, .int), (cB, .byte), (cL, .long), (cZ, .boolean), (cR, .object "PatchStore$Repository"), (cBB, .array .byte), (cZZ, .array .boolean), (cII, .array .int)] [.ref md, .ref inA, .int (nI n)] ([(md, .inr (12, [md_tape, md_size, md_thrown, md_fault, .ref byM, .int (nI us), .ref atM, .ref leM, .ref daM, .ref fcM, .ref hsA, .ref dsM, .int (nI P9), md_sort, md_of, md_fileOf, md_one, md_two, md_nameAt, md_nameSize, md_overAt, md_overCount, md_lineAt, md_lineCount, .int (nI cc), md_overs, md_overTotal, md_lineChange, md_textAt, md_textSize, md_lines, md_fileChange, md_fileLines, md_files, md_sets, md_stamp, md_digest, md_in, md_pos, md_stop, md_wrong, .ref dpM, md_named, .int (nI nd), md_own, md_refFile, md_full, .ref hM, md_counts, md_marked, md_namings, md_namingCount, md_listed, md_listedCount, md_listedStamp, md_member, md_text, md_place, md_dead, md_edge, md_way, md_members, md_textLines, md_unsure, md_workedRepository, md_workedFile, md_workedStamp, md_stack, md_before, md_left, md_made, md_madeSize, md_need, md_needs, md_newAt, md_newSize, md_news, md_common, md_keptAs, md_isNew, md_keptFrom, md_stateOf, md_rising])), (inA, .inl (cB, NI, .inl gi)), (byM, .inl (cB, 200000, .inl by9)), (atM, .inl (cI, 501, .inl at9)), (leM, .inl (cI, 500, .inl le9)), (hsA, .inl (cBB, 500, .inr (.inr (.inr (.inr gh))))), (hM, .inl (cB, 32, .inl h9)), (dsM, .inl (cI, 7000, .inl ds)), (daM, .inl (cI, 501, .inl da)), (dpM, .inl (cI, 2100, .inl dpf)), (fcM, .inl (cI, 501, .inl fcf))] ++ gdA cI cB cZ G) sz) (va_Qv (fun u : Nat × (Nat → Int32) => (∀ i, ¬ (D9 ≤ i ∧ i < D9 + nd) → u.2 i = ds i) ∧ ∀ i, i < nd → u.2 (D9 + i) = dpf i) (fun u t => xw_B dC dI [(cI, .int), (cB, .byte), (cL, .long), (cZ, .boolean), (cR, .object "PatchStore$Repository"), (cBB, .array .byte), (cZZ, .array .boolean), (cII, .array .int)] (va_A ([(md, .inr (12, [md_tape, md_size, md_thrown, md_fault, .ref byM, .int (nI us), .ref atM, .ref leM, .ref daM, .ref fcM, .ref hsA, .ref dsM, .int (nI P9), md_sort, md_of, md_fileOf, md_one, md_two, md_nameAt, md_nameSize, md_overAt, md_overCount, md_lineAt, md_lineCount, .int (nI cc), md_overs, md_overTotal, md_lineChange, md_textAt, md_textSize, md_lines, md_fileChange, md_fileLines, md_files, md_sets, md_stamp, md_digest, md_in, md_pos, md_stop, md_wrong, .ref dpM, md_named, .int (nI nd), md_own, md_refFile, md_full, .ref hM, md_counts, md_marked, md_namings, md_namingCount, md_listed, md_listedCount, md_listedStamp, md_member, md_text, md_place, md_dead, md_edge, md_way, md_members, md_textLines, md_unsure, md_workedRepository, md_workedFile, md_workedStamp, md_stack, md_before, md_left, md_made, md_madeSize, md_need, md_needs, md_newAt, md_newSize, md_news, md_common, md_keptAs, md_isNew, md_keptFrom, md_stateOf, md_rising])), (inA, .inl (cB, NI, .inl gi)), (byM, .inl (cB, 200000, .inl by9)), (atM, .inl (cI, 501, .inl at9)), (leM, .inl (cI, 500, .inl le9)), (hsA, .inl (cBB, 500, .inr (.inr (.inr (.inr gh))))), (hM, .inl (cB, 32, .inl h9)), (dsM, .inl (cI, 7000, .inl ds)), (daM, .inl (cI, 501, .inl da)), (dpM, .inl (cI, 2100, .inl dpf)), (fcM, .inl (cI, 501, .inl fcf))] ++ gdA cI cB cZ G) sz) ([(md, .inr (12, [md_tape, md_size, md_thrown, md_fault, .ref byM, .int (nI (us + n)), .ref atM, .ref leM, .ref daM, .ref fcM, .ref hsA, .ref dsM, .int (nI (P9 + 1)), md_sort, md_of, md_fileOf, md_one, md_two, md_nameAt, md_nameSize, md_overAt, md_overCount, md_lineAt, md_lineCount, .int (nI cc), md_overs, md_overTotal, md_lineChange, md_textAt, md_textSize, md_lines, md_fileChange, md_fileLines, md_files, md_sets, md_stamp, md_digest, md_in, md_pos, md_stop, md_wrong, .ref dpM, md_named, .int (nI nd), md_own, md_refFile, md_full, .ref hM, md_counts, md_marked, md_namings, md_namingCount, md_listed, md_listedCount, md_listedStamp, md_member, md_text, md_place, md_dead, md_edge, md_way, md_members, md_textLines, md_unsure, md_workedRepository, md_workedFile, md_workedStamp, md_stack, md_before, md_left, md_made, md_madeSize, md_need, md_needs, md_newAt, md_newSize, md_news, md_common, md_keptAs, md_isNew, md_keptFrom, md_stateOf, md_rising])), (inA, .inl (cB, NI, .inl gi)), (byM, .inl (cB, 200000, .inl (va_cpy gi by9 0 us n))), (atM, .inl (cI, 501, .inl (upd at9 P9 (nI us)))), (leM, .inl (cI, 500, .inl (upd le9 P9 (nI n)))), (hsA, .inl (cBB, 500, .inr (.inr (.inr (.inr (va_up gh P9 (some u.1))))))), (hM, .inl (cB, 32, .inl h9)), (dsM, .inl (cI, 7000, .inl u.2)), (daM, .inl (cI, 501, .inl (upd da (P9 + 1) (nI (D9 + nd))))), (dpM, .inl (cI, 2100, .inl dpf)), (fcM, .inl (cI, 501, .inl (upd fcf (P9 + 1) (nI cc))))] ++ gdA cI cB cZ (G.pH u.1 (va_cpy h9 (fun _ => 0) 0 0 32))) t) (va_A ([(md, .inr (12, [md_tape, md_size, md_thrown, md_fault, .ref byM, .int (nI us), .ref atM, .ref leM, .ref daM, .ref fcM, .ref hsA, .ref dsM, .int (nI P9), md_sort, md_of, md_fileOf, md_one, md_two, md_nameAt, md_nameSize, md_overAt, md_overCount, md_lineAt, md_lineCount, .int (nI cc), md_overs, md_overTotal, md_lineChange, md_textAt, md_textSize, md_lines, md_fileChange, md_fileLines, md_files, md_sets, md_stamp, md_digest, md_in, md_pos, md_stop, md_wrong, .ref dpM, md_named, .int (nI nd), md_own, md_refFile, md_full, .ref hM, md_counts, md_marked, md_namings, md_namingCount, md_listed, md_listedCount, md_listedStamp, md_member, md_text, md_place, md_dead, md_edge, md_way, md_members, md_textLines, md_unsure, md_workedRepository, md_workedFile, md_workedStamp, md_stack, md_before, md_left, md_made, md_madeSize, md_need, md_needs, md_newAt, md_newSize, md_news, md_common, md_keptAs, md_isNew, md_keptFrom, md_stateOf, md_rising])), (inA, .inl (cB, NI, .inl gi)), (byM, .inl (cB, 200000, .inl by9)), (atM, .inl (cI, 501, .inl at9)), (leM, .inl (cI, 500, .inl le9)), (hsA, .inl (cBB, 500, .inr (.inr (.inr (.inr gh))))), (hM, .inl (cB, 32, .inl h9)), (dsM, .inl (cI, 7000, .inl ds)), (daM, .inl (cI, 501, .inl da)), (dpM, .inl (cI, 2100, .inl dpf)), (fcM, .inl (cI, 501, .inl fcf))] ++ gdA cI cB cZ G) sz)) 1 32 (va_A ([(md, .inr (12, [md_tape, md_size, md_thrown, md_fault, .ref byM, .int (nI us), .ref atM, .ref leM, .ref daM, .ref fcM, .ref hsA, .ref dsM, .int (nI P9), md_sort, md_of, md_fileOf, md_one, md_two, md_nameAt, md_nameSize, md_overAt, md_overCount, md_lineAt, md_lineCount, .int (nI cc), md_overs, md_overTotal, md_lineChange, md_textAt, md_textSize, md_lines, md_fileChange, md_fileLines, md_files, md_sets, md_stamp, md_digest, md_in, md_pos, md_stop, md_wrong, .ref dpM, md_named, .int (nI nd), md_own, md_refFile, md_full, .ref hM, md_counts, md_marked, md_namings, md_namingCount, md_listed, md_listedCount, md_listedStamp, md_member, md_text, md_place, md_dead, md_edge, md_way, md_members, md_textLines, md_unsure, md_workedRepository, md_workedFile, md_workedStamp, md_stack, md_before, md_left, md_made, md_madeSize, md_need, md_needs, md_newAt, md_newSize, md_news, md_common, md_keptAs, md_isNew, md_keptFrom, md_stateOf, md_rising])), (inA, .inl (cB, NI, .inl gi)), (byM, .inl (cB, 200000, .inl by9)), (atM, .inl (cI, 501, .inl at9)), (leM, .inl (cI, 500, .inl le9)), (hsA, .inl (cBB, 500, .inr (.inr (.inr (.inr gh))))), (hM, .inl (cB, 32, .inl h9)), (dsM, .inl (cI, 7000, .inl ds)), (daM, .inl (cI, 501, .inl da)), (dpM, .inl (cI, 2100, .inl dpf)), (fcM, .inl (cI, 501, .inl fcf))] ++ gdA cI cB cZ G) sz) := by
  refine Met.ofW (cc := prog_14_method_29_code) (maxL := 5) (ret := none) (by decide) rfl ?_
  intro p e s m args below meth c s₁ B hml hv
  obtain ⟨rfl, hsz, hP, hK, hD0, hN, hTh⟩ := hv
  have hx := B.exec
  have hb := B.bytes
  have hr := B.returns
  have hts0 := atoms_spec (ws := ws_Md_store) B.pre
  have hts : ∀ w ∈ xg_1, w.before _ s = true := fun w h => hts0 w (List.mem_cons_of_mem _ h)
  have hown : s.vm.findClass "PatchStoreModel" = some m.cls := findClass_of_methodNamed B.named
  have hlocks := B.notSynchronized
  subst hsz
  have hD := hD0.self (sz := s.heap.size)
  generalize hAe : va_A ([(md, .inr (12, [md_tape, md_size, md_thrown, md_fault, .ref byM, .int (nI us), .ref atM, .ref leM, .ref daM, .ref fcM, .ref hsA, .ref dsM, .int (nI P9), md_sort, md_of, md_fileOf, md_one, md_two, md_nameAt, md_nameSize, md_overAt, md_overCount, md_lineAt, md_lineCount, .int (nI cc), md_overs, md_overTotal, md_lineChange, md_textAt, md_textSize, md_lines, md_fileChange, md_fileLines, md_files, md_sets, md_stamp, md_digest, md_in, md_pos, md_stop, md_wrong, .ref dpM, md_named, .int (nI nd), md_own, md_refFile, md_full, .ref hM, md_counts, md_marked, md_namings, md_namingCount, md_listed, md_listedCount, md_listedStamp, md_member, md_text, md_place, md_dead, md_edge, md_way, md_members, md_textLines, md_unsure, md_workedRepository, md_workedFile, md_workedStamp, md_stack, md_before, md_left, md_made, md_madeSize, md_need, md_needs, md_newAt, md_newSize, md_news, md_common, md_keptAs, md_isNew, md_keptFrom, md_stateOf, md_rising])), (inA, .inl (cB, NI, .inl gi)), (byM, .inl (cB, 200000, .inl by9)), (atM, .inl (cI, 501, .inl at9)), (leM, .inl (cI, 500, .inl le9)), (hsA, .inl (cBB, 500, .inr (.inr (.inr (.inr gh))))), (hM, .inl (cB, 32, .inl h9)), (dsM, .inl (cI, 7000, .inl ds)), (daM, .inl (cI, 501, .inl da)), (dpM, .inl (cI, 2100, .inl dpf)), (fcM, .inl (cI, 501, .inl fcf))] ++ gdA cI cB cZ G) s.heap.size = A at hD hTh ⊢
  have hA : ∀ q : Nat, s.heap.size ≤ q → A q := fun q h => by rw [← hAe]; exact Or.inr h
  have hS : va_S A s.heap s.heap [] := va_S.rf
  have hl := lv_entry ([.ref md, .ref inA, .int (nI n)]) (n := 5) (Nat.le_of_ble_eq_true rfl)
  rw [lg_entry_eq]
  generalize (lg_sl ([.ref md, .ref inA, .int (nI n)]) ++ List.replicate (5 - (lg_sl ([.ref md, .ref inA, .int (nI n)])).length) Slot.unset).toArray = ls at hl ⊢
  have hl : lv_has ls 5 [(0, .ref md), (1, .ref inA), (2, .int (nI n))] := hl
  generalize hQe : MQ _ _ _ _ _ _ _ = Q
  refine lv_aload_n hx hb d_Md_store_0 rfl (lv_at hl 0 rfl) ?_
  refine lv_dup hx hb d_Md_store_1 rfl ?_
  refine va_get (D := (dC, dI)) (ci := 12) (v := .int (nI P9)) (C := R_Md) (T := F_Md) (N := 83) hx hb hts i_Md hown hK hP 0 rfl rfl 12 (by decide) (hts _ gw_1430) (fun _ h9 => h9) rfl d_Md_store_2 ?_
  refine lv_dup_x1 hx hb d_Md_store_5 rfl rfl ?_
  refine lv_iconst (v := 1) hx hb d_Md_store_6 (by decide) ?_
  refine lv_iadd hx hb d_Md_store_7 ?_
  refine lv_topi (fun x_1 ex_1 => ?_)
  obtain rfl : x_1 = nI (P9 + 1) := by rw [ex_1]; first | done | (exact nI_add _ _)
  refine va_put (D := (dC, dI)) (ci := 12) (v := .int (nI (P9 + 1))) (ty := .int) (C := R_Md) (T := F_Md) (N := 83) hx hb hts i_Md t_Md t_Md_ok n_Md hown hK hP hD hS 0 rfl rfl 12 (by decide) (hts _ gw_1430) (fun _ h9 => h9) rfl (by decide +kernel) rfl rfl (Nat.le_of_ble_eq_true rfl) d_Md_store_8 (fun H locs hP hD hS => ?_)
  have hP : va_P (dC, dI) classes ([(md, .inr (12, [md_tape, md_size, md_thrown, md_fault, .ref byM, .int (nI us), .ref atM, .ref leM, .ref daM, .ref fcM, .ref hsA, .ref dsM, .int (nI (P9 + 1)), md_sort, md_of, md_fileOf, md_one, md_two, md_nameAt, md_nameSize, md_overAt, md_overCount, md_lineAt, md_lineCount, .int (nI cc), md_overs, md_overTotal, md_lineChange, md_textAt, md_textSize, md_lines, md_fileChange, md_fileLines, md_files, md_sets, md_stamp, md_digest, md_in, md_pos, md_stop, md_wrong, .ref dpM, md_named, .int (nI nd), md_own, md_refFile, md_full, .ref hM, md_counts, md_marked, md_namings, md_namingCount, md_listed, md_listedCount, md_listedStamp, md_member, md_text, md_place, md_dead, md_edge, md_way, md_members, md_textLines, md_unsure, md_workedRepository, md_workedFile, md_workedStamp, md_stack, md_before, md_left, md_made, md_madeSize, md_need, md_needs, md_newAt, md_newSize, md_news, md_common, md_keptAs, md_isNew, md_keptFrom, md_stateOf, md_rising])), (inA, .inl (cB, NI, .inl gi)), (byM, .inl (cB, 200000, .inl by9)), (atM, .inl (cI, 501, .inl at9)), (leM, .inl (cI, 500, .inl le9)), (hsA, .inl (cBB, 500, .inr (.inr (.inr (.inr gh))))), (hM, .inl (cB, 32, .inl h9)), (dsM, .inl (cI, 7000, .inl ds)), (daM, .inl (cI, 501, .inl da)), (dpM, .inl (cI, 2100, .inl dpf)), (fcM, .inl (cI, 501, .inl fcf))] ++ gdA cI cB cZ G) H := hP
  have hD : va_D A ([(md, .inr (12, [md_tape, md_size, md_thrown, md_fault, .ref byM, .int (nI us), .ref atM, .ref leM, .ref daM, .ref fcM, .ref hsA, .ref dsM, .int (nI (P9 + 1)), md_sort, md_of, md_fileOf, md_one, md_two, md_nameAt, md_nameSize, md_overAt, md_overCount, md_lineAt, md_lineCount, .int (nI cc), md_overs, md_overTotal, md_lineChange, md_textAt, md_textSize, md_lines, md_fileChange, md_fileLines, md_files, md_sets, md_stamp, md_digest, md_in, md_pos, md_stop, md_wrong, .ref dpM, md_named, .int (nI nd), md_own, md_refFile, md_full, .ref hM, md_counts, md_marked, md_namings, md_namingCount, md_listed, md_listedCount, md_listedStamp, md_member, md_text, md_place, md_dead, md_edge, md_way, md_members, md_textLines, md_unsure, md_workedRepository, md_workedFile, md_workedStamp, md_stack, md_before, md_left, md_made, md_madeSize, md_need, md_needs, md_newAt, md_newSize, md_news, md_common, md_keptAs, md_isNew, md_keptFrom, md_stateOf, md_rising])), (inA, .inl (cB, NI, .inl gi)), (byM, .inl (cB, 200000, .inl by9)), (atM, .inl (cI, 501, .inl at9)), (leM, .inl (cI, 500, .inl le9)), (hsA, .inl (cBB, 500, .inr (.inr (.inr (.inr gh))))), (hM, .inl (cB, 32, .inl h9)), (dsM, .inl (cI, 7000, .inl ds)), (daM, .inl (cI, 501, .inl da)), (dpM, .inl (cI, 2100, .inl dpf)), (fcM, .inl (cI, 501, .inl fcf))] ++ gdA cI cB cZ G) := hD
  refine lv_istore_n (lv' := [(3, .int (nI P9)), (0, .ref md), (1, .ref inA), (2, .int (nI n))]) hx hb d_Md_store_11 rfl hl (by decide) rfl (fun ls hl => ?_)
  refine lv_aload_n hx hb d_Md_store_12 rfl (lv_at hl 2 rfl) ?_
  refine lv_iconst (v := 0) hx hb d_Md_store_13 (by decide) ?_
  refine lv_aload_n hx hb d_Md_store_14 rfl (lv_at hl 1 rfl) ?_
  refine va_get (D := (dC, dI)) (ci := 12) (v := .ref byM) (C := R_Md) (T := F_Md) (N := 83) hx hb hts i_Md hown hK hP 0 rfl rfl 4 (by decide) (hts _ gw_1422) (fun _ h9 => h9) rfl d_Md_store_15 ?_
  refine lv_aload_n hx hb d_Md_store_18 rfl (lv_at hl 1 rfl) ?_
  refine va_get (D := (dC, dI)) (ci := 12) (v := .int (nI us)) (C := R_Md) (T := F_Md) (N := 83) hx hb hts i_Md hown hK hP 0 rfl rfl 5 (by decide) (hts _ gw_1423) (fun _ h9 => h9) rfl d_Md_store_19 ?_
  refine lv_iload_n hx hb d_Md_store_22 rfl (lv_at hl 3 rfl) ?_
  have cp1 : (0 : Int32).toNatClampNeg = 0 := rfl
  have cp2 : (nI us).toNatClampNeg = us := nI_clamp (by omega)
  have cp3 : (nI n).toNatClampNeg = n := nI_clamp (by omega)
  refine va_copyi hx hb (by rw [hml, hl.1]) hown (hts _ gw_1832) (hts _ gw_952) (hts _ gw_951) (hts _ gw_23) hK hP hD hS 1 2 1 1 rfl rfl rfl rfl rfl (by decide) (nI_pos (by omega)) (nI_pos (by omega)) (by rw [cp1, cp3]; omega) (by rw [cp2, cp3]; omega) (by rw [cp1, cp3]; exact fun i z => hgb _ (by omega)) (Nat.le_of_ble_eq_true rfl) (Nat.le_of_ble_eq_true rfl) d_Md_store_23 (fun H locs hP hD hS => ?_)
  rw [cp1, cp2, cp3] at hP hD
  have hP : va_P (dC, dI) classes ([(md, .inr (12, [md_tape, md_size, md_thrown, md_fault, .ref byM, .int (nI us), .ref atM, .ref leM, .ref daM, .ref fcM, .ref hsA, .ref dsM, .int (nI (P9 + 1)), md_sort, md_of, md_fileOf, md_one, md_two, md_nameAt, md_nameSize, md_overAt, md_overCount, md_lineAt, md_lineCount, .int (nI cc), md_overs, md_overTotal, md_lineChange, md_textAt, md_textSize, md_lines, md_fileChange, md_fileLines, md_files, md_sets, md_stamp, md_digest, md_in, md_pos, md_stop, md_wrong, .ref dpM, md_named, .int (nI nd), md_own, md_refFile, md_full, .ref hM, md_counts, md_marked, md_namings, md_namingCount, md_listed, md_listedCount, md_listedStamp, md_member, md_text, md_place, md_dead, md_edge, md_way, md_members, md_textLines, md_unsure, md_workedRepository, md_workedFile, md_workedStamp, md_stack, md_before, md_left, md_made, md_madeSize, md_need, md_needs, md_newAt, md_newSize, md_news, md_common, md_keptAs, md_isNew, md_keptFrom, md_stateOf, md_rising])), (inA, .inl (cB, NI, .inl gi)), (byM, .inl (cB, 200000, .inl (va_cpy gi by9 0 us n))), (atM, .inl (cI, 501, .inl at9)), (leM, .inl (cI, 500, .inl le9)), (hsA, .inl (cBB, 500, .inr (.inr (.inr (.inr gh))))), (hM, .inl (cB, 32, .inl h9)), (dsM, .inl (cI, 7000, .inl ds)), (daM, .inl (cI, 501, .inl da)), (dpM, .inl (cI, 2100, .inl dpf)), (fcM, .inl (cI, 501, .inl fcf))] ++ gdA cI cB cZ G) H := hP
  have hD : va_D A ([(md, .inr (12, [md_tape, md_size, md_thrown, md_fault, .ref byM, .int (nI us), .ref atM, .ref leM, .ref daM, .ref fcM, .ref hsA, .ref dsM, .int (nI (P9 + 1)), md_sort, md_of, md_fileOf, md_one, md_two, md_nameAt, md_nameSize, md_overAt, md_overCount, md_lineAt, md_lineCount, .int (nI cc), md_overs, md_overTotal, md_lineChange, md_textAt, md_textSize, md_lines, md_fileChange, md_fileLines, md_files, md_sets, md_stamp, md_digest, md_in, md_pos, md_stop, md_wrong, .ref dpM, md_named, .int (nI nd), md_own, md_refFile, md_full, .ref hM, md_counts, md_marked, md_namings, md_namingCount, md_listed, md_listedCount, md_listedStamp, md_member, md_text, md_place, md_dead, md_edge, md_way, md_members, md_textLines, md_unsure, md_workedRepository, md_workedFile, md_workedStamp, md_stack, md_before, md_left, md_made, md_madeSize, md_need, md_needs, md_newAt, md_newSize, md_news, md_common, md_keptAs, md_isNew, md_keptFrom, md_stateOf, md_rising])), (inA, .inl (cB, NI, .inl gi)), (byM, .inl (cB, 200000, .inl (va_cpy gi by9 0 us n))), (atM, .inl (cI, 501, .inl at9)), (leM, .inl (cI, 500, .inl le9)), (hsA, .inl (cBB, 500, .inr (.inr (.inr (.inr gh))))), (hM, .inl (cB, 32, .inl h9)), (dsM, .inl (cI, 7000, .inl ds)), (daM, .inl (cI, 501, .inl da)), (dpM, .inl (cI, 2100, .inl dpf)), (fcM, .inl (cI, 501, .inl fcf))] ++ gdA cI cB cZ G) := hD
  refine lv_aload_n hx hb d_Md_store_26 rfl (lv_at hl 1 rfl) ?_
  refine va_get (D := (dC, dI)) (ci := 12) (v := .ref atM) (C := R_Md) (T := F_Md) (N := 83) hx hb hts i_Md hown hK hP 0 rfl rfl 6 (by decide) (hts _ gw_1424) (fun _ h9 => h9) rfl d_Md_store_27 ?_
  refine lv_iload_n hx hb d_Md_store_30 rfl (lv_at hl 0 rfl) ?_
  refine lv_aload_n hx hb d_Md_store_31 rfl (lv_at hl 1 rfl) ?_
  refine va_get (D := (dC, dI)) (ci := 12) (v := .int (nI us)) (C := R_Md) (T := F_Md) (N := 83) hx hb hts i_Md hown hK hP 0 rfl rfl 5 (by decide) (hts _ gw_1423) (fun _ h9 => h9) rfl d_Md_store_32 ?_
  refine va_iast hx hb hK hP hD hS 3 0 rfl rfl (vp_in_nI (by omega) (by omega)) d_Md_store_35 (fun H locs hP hD hS => ?_)
  rw [show (nI P9).toNatClampNeg = P9 from nI_clamp (by omega)] at hP hD
  have hP : va_P (dC, dI) classes ([(md, .inr (12, [md_tape, md_size, md_thrown, md_fault, .ref byM, .int (nI us), .ref atM, .ref leM, .ref daM, .ref fcM, .ref hsA, .ref dsM, .int (nI (P9 + 1)), md_sort, md_of, md_fileOf, md_one, md_two, md_nameAt, md_nameSize, md_overAt, md_overCount, md_lineAt, md_lineCount, .int (nI cc), md_overs, md_overTotal, md_lineChange, md_textAt, md_textSize, md_lines, md_fileChange, md_fileLines, md_files, md_sets, md_stamp, md_digest, md_in, md_pos, md_stop, md_wrong, .ref dpM, md_named, .int (nI nd), md_own, md_refFile, md_full, .ref hM, md_counts, md_marked, md_namings, md_namingCount, md_listed, md_listedCount, md_listedStamp, md_member, md_text, md_place, md_dead, md_edge, md_way, md_members, md_textLines, md_unsure, md_workedRepository, md_workedFile, md_workedStamp, md_stack, md_before, md_left, md_made, md_madeSize, md_need, md_needs, md_newAt, md_newSize, md_news, md_common, md_keptAs, md_isNew, md_keptFrom, md_stateOf, md_rising])), (inA, .inl (cB, NI, .inl gi)), (byM, .inl (cB, 200000, .inl (va_cpy gi by9 0 us n))), (atM, .inl (cI, 501, .inl (upd at9 P9 (nI us)))), (leM, .inl (cI, 500, .inl le9)), (hsA, .inl (cBB, 500, .inr (.inr (.inr (.inr gh))))), (hM, .inl (cB, 32, .inl h9)), (dsM, .inl (cI, 7000, .inl ds)), (daM, .inl (cI, 501, .inl da)), (dpM, .inl (cI, 2100, .inl dpf)), (fcM, .inl (cI, 501, .inl fcf))] ++ gdA cI cB cZ G) H := hP
  have hD : va_D A ([(md, .inr (12, [md_tape, md_size, md_thrown, md_fault, .ref byM, .int (nI us), .ref atM, .ref leM, .ref daM, .ref fcM, .ref hsA, .ref dsM, .int (nI (P9 + 1)), md_sort, md_of, md_fileOf, md_one, md_two, md_nameAt, md_nameSize, md_overAt, md_overCount, md_lineAt, md_lineCount, .int (nI cc), md_overs, md_overTotal, md_lineChange, md_textAt, md_textSize, md_lines, md_fileChange, md_fileLines, md_files, md_sets, md_stamp, md_digest, md_in, md_pos, md_stop, md_wrong, .ref dpM, md_named, .int (nI nd), md_own, md_refFile, md_full, .ref hM, md_counts, md_marked, md_namings, md_namingCount, md_listed, md_listedCount, md_listedStamp, md_member, md_text, md_place, md_dead, md_edge, md_way, md_members, md_textLines, md_unsure, md_workedRepository, md_workedFile, md_workedStamp, md_stack, md_before, md_left, md_made, md_madeSize, md_need, md_needs, md_newAt, md_newSize, md_news, md_common, md_keptAs, md_isNew, md_keptFrom, md_stateOf, md_rising])), (inA, .inl (cB, NI, .inl gi)), (byM, .inl (cB, 200000, .inl (va_cpy gi by9 0 us n))), (atM, .inl (cI, 501, .inl (upd at9 P9 (nI us)))), (leM, .inl (cI, 500, .inl le9)), (hsA, .inl (cBB, 500, .inr (.inr (.inr (.inr gh))))), (hM, .inl (cB, 32, .inl h9)), (dsM, .inl (cI, 7000, .inl ds)), (daM, .inl (cI, 501, .inl da)), (dpM, .inl (cI, 2100, .inl dpf)), (fcM, .inl (cI, 501, .inl fcf))] ++ gdA cI cB cZ G) := hD
  refine lv_aload_n hx hb d_Md_store_36 rfl (lv_at hl 1 rfl) ?_
  refine va_get (D := (dC, dI)) (ci := 12) (v := .ref leM) (C := R_Md) (T := F_Md) (N := 83) hx hb hts i_Md hown hK hP 0 rfl rfl 7 (by decide) (hts _ gw_1425) (fun _ h9 => h9) rfl d_Md_store_37 ?_
  refine lv_iload_n hx hb d_Md_store_40 rfl (lv_at hl 0 rfl) ?_
  refine lv_iload_n hx hb d_Md_store_41 rfl (lv_at hl 3 rfl) ?_
  refine va_iast hx hb hK hP hD hS 4 0 rfl rfl (vp_in_nI (by omega) (by omega)) d_Md_store_42 (fun H locs hP hD hS => ?_)
  rw [show (nI P9).toNatClampNeg = P9 from nI_clamp (by omega)] at hP hD
  have hP : va_P (dC, dI) classes ([(md, .inr (12, [md_tape, md_size, md_thrown, md_fault, .ref byM, .int (nI us), .ref atM, .ref leM, .ref daM, .ref fcM, .ref hsA, .ref dsM, .int (nI (P9 + 1)), md_sort, md_of, md_fileOf, md_one, md_two, md_nameAt, md_nameSize, md_overAt, md_overCount, md_lineAt, md_lineCount, .int (nI cc), md_overs, md_overTotal, md_lineChange, md_textAt, md_textSize, md_lines, md_fileChange, md_fileLines, md_files, md_sets, md_stamp, md_digest, md_in, md_pos, md_stop, md_wrong, .ref dpM, md_named, .int (nI nd), md_own, md_refFile, md_full, .ref hM, md_counts, md_marked, md_namings, md_namingCount, md_listed, md_listedCount, md_listedStamp, md_member, md_text, md_place, md_dead, md_edge, md_way, md_members, md_textLines, md_unsure, md_workedRepository, md_workedFile, md_workedStamp, md_stack, md_before, md_left, md_made, md_madeSize, md_need, md_needs, md_newAt, md_newSize, md_news, md_common, md_keptAs, md_isNew, md_keptFrom, md_stateOf, md_rising])), (inA, .inl (cB, NI, .inl gi)), (byM, .inl (cB, 200000, .inl (va_cpy gi by9 0 us n))), (atM, .inl (cI, 501, .inl (upd at9 P9 (nI us)))), (leM, .inl (cI, 500, .inl (upd le9 P9 (nI n)))), (hsA, .inl (cBB, 500, .inr (.inr (.inr (.inr gh))))), (hM, .inl (cB, 32, .inl h9)), (dsM, .inl (cI, 7000, .inl ds)), (daM, .inl (cI, 501, .inl da)), (dpM, .inl (cI, 2100, .inl dpf)), (fcM, .inl (cI, 501, .inl fcf))] ++ gdA cI cB cZ G) H := hP
  have hD : va_D A ([(md, .inr (12, [md_tape, md_size, md_thrown, md_fault, .ref byM, .int (nI us), .ref atM, .ref leM, .ref daM, .ref fcM, .ref hsA, .ref dsM, .int (nI (P9 + 1)), md_sort, md_of, md_fileOf, md_one, md_two, md_nameAt, md_nameSize, md_overAt, md_overCount, md_lineAt, md_lineCount, .int (nI cc), md_overs, md_overTotal, md_lineChange, md_textAt, md_textSize, md_lines, md_fileChange, md_fileLines, md_files, md_sets, md_stamp, md_digest, md_in, md_pos, md_stop, md_wrong, .ref dpM, md_named, .int (nI nd), md_own, md_refFile, md_full, .ref hM, md_counts, md_marked, md_namings, md_namingCount, md_listed, md_listedCount, md_listedStamp, md_member, md_text, md_place, md_dead, md_edge, md_way, md_members, md_textLines, md_unsure, md_workedRepository, md_workedFile, md_workedStamp, md_stack, md_before, md_left, md_made, md_madeSize, md_need, md_needs, md_newAt, md_newSize, md_news, md_common, md_keptAs, md_isNew, md_keptFrom, md_stateOf, md_rising])), (inA, .inl (cB, NI, .inl gi)), (byM, .inl (cB, 200000, .inl (va_cpy gi by9 0 us n))), (atM, .inl (cI, 501, .inl (upd at9 P9 (nI us)))), (leM, .inl (cI, 500, .inl (upd le9 P9 (nI n)))), (hsA, .inl (cBB, 500, .inr (.inr (.inr (.inr gh))))), (hM, .inl (cB, 32, .inl h9)), (dsM, .inl (cI, 7000, .inl ds)), (daM, .inl (cI, 501, .inl da)), (dpM, .inl (cI, 2100, .inl dpf)), (fcM, .inl (cI, 501, .inl fcf))] ++ gdA cI cB cZ G) := hD
  refine lv_aload_n hx hb d_Md_store_43 rfl (lv_at hl 1 rfl) ?_
  refine lv_dup hx hb d_Md_store_44 rfl ?_
  refine va_get (D := (dC, dI)) (ci := 12) (v := .int (nI us)) (C := R_Md) (T := F_Md) (N := 83) hx hb hts i_Md hown hK hP 0 rfl rfl 5 (by decide) (hts _ gw_1423) (fun _ h9 => h9) rfl d_Md_store_45 ?_
  refine lv_iload_n hx hb d_Md_store_48 rfl (lv_at hl 3 rfl) ?_
  refine lv_iadd hx hb d_Md_store_49 ?_
  refine lv_topi (fun x_2 ex_2 => ?_)
  obtain rfl : x_2 = nI (us + n) := by rw [ex_2]; first | done | (exact nI_add _ _)
  refine va_put (D := (dC, dI)) (ci := 12) (v := .int (nI (us + n))) (ty := .int) (C := R_Md) (T := F_Md) (N := 83) hx hb hts i_Md t_Md t_Md_ok n_Md hown hK hP hD hS 0 rfl rfl 5 (by decide) (hts _ gw_1423) (fun _ h9 => h9) rfl (by decide +kernel) rfl rfl (Nat.le_of_ble_eq_true rfl) d_Md_store_50 (fun H locs hP hD hS => ?_)
  have hP : va_P (dC, dI) classes ([(md, .inr (12, [md_tape, md_size, md_thrown, md_fault, .ref byM, .int (nI (us + n)), .ref atM, .ref leM, .ref daM, .ref fcM, .ref hsA, .ref dsM, .int (nI (P9 + 1)), md_sort, md_of, md_fileOf, md_one, md_two, md_nameAt, md_nameSize, md_overAt, md_overCount, md_lineAt, md_lineCount, .int (nI cc), md_overs, md_overTotal, md_lineChange, md_textAt, md_textSize, md_lines, md_fileChange, md_fileLines, md_files, md_sets, md_stamp, md_digest, md_in, md_pos, md_stop, md_wrong, .ref dpM, md_named, .int (nI nd), md_own, md_refFile, md_full, .ref hM, md_counts, md_marked, md_namings, md_namingCount, md_listed, md_listedCount, md_listedStamp, md_member, md_text, md_place, md_dead, md_edge, md_way, md_members, md_textLines, md_unsure, md_workedRepository, md_workedFile, md_workedStamp, md_stack, md_before, md_left, md_made, md_madeSize, md_need, md_needs, md_newAt, md_newSize, md_news, md_common, md_keptAs, md_isNew, md_keptFrom, md_stateOf, md_rising])), (inA, .inl (cB, NI, .inl gi)), (byM, .inl (cB, 200000, .inl (va_cpy gi by9 0 us n))), (atM, .inl (cI, 501, .inl (upd at9 P9 (nI us)))), (leM, .inl (cI, 500, .inl (upd le9 P9 (nI n)))), (hsA, .inl (cBB, 500, .inr (.inr (.inr (.inr gh))))), (hM, .inl (cB, 32, .inl h9)), (dsM, .inl (cI, 7000, .inl ds)), (daM, .inl (cI, 501, .inl da)), (dpM, .inl (cI, 2100, .inl dpf)), (fcM, .inl (cI, 501, .inl fcf))] ++ gdA cI cB cZ G) H := hP
  have hD : va_D A ([(md, .inr (12, [md_tape, md_size, md_thrown, md_fault, .ref byM, .int (nI (us + n)), .ref atM, .ref leM, .ref daM, .ref fcM, .ref hsA, .ref dsM, .int (nI (P9 + 1)), md_sort, md_of, md_fileOf, md_one, md_two, md_nameAt, md_nameSize, md_overAt, md_overCount, md_lineAt, md_lineCount, .int (nI cc), md_overs, md_overTotal, md_lineChange, md_textAt, md_textSize, md_lines, md_fileChange, md_fileLines, md_files, md_sets, md_stamp, md_digest, md_in, md_pos, md_stop, md_wrong, .ref dpM, md_named, .int (nI nd), md_own, md_refFile, md_full, .ref hM, md_counts, md_marked, md_namings, md_namingCount, md_listed, md_listedCount, md_listedStamp, md_member, md_text, md_place, md_dead, md_edge, md_way, md_members, md_textLines, md_unsure, md_workedRepository, md_workedFile, md_workedStamp, md_stack, md_before, md_left, md_made, md_madeSize, md_need, md_needs, md_newAt, md_newSize, md_news, md_common, md_keptAs, md_isNew, md_keptFrom, md_stateOf, md_rising])), (inA, .inl (cB, NI, .inl gi)), (byM, .inl (cB, 200000, .inl (va_cpy gi by9 0 us n))), (atM, .inl (cI, 501, .inl (upd at9 P9 (nI us)))), (leM, .inl (cI, 500, .inl (upd le9 P9 (nI n)))), (hsA, .inl (cBB, 500, .inr (.inr (.inr (.inr gh))))), (hM, .inl (cB, 32, .inl h9)), (dsM, .inl (cI, 7000, .inl ds)), (daM, .inl (cI, 501, .inl da)), (dpM, .inl (cI, 2100, .inl dpf)), (fcM, .inl (cI, 501, .inl fcf))] ++ gdA cI cB cZ G) := hD
  refine lv_aload_n hx hb d_Md_store_53 rfl (lv_at hl 1 rfl) ?_
  refine va_get (D := (dC, dI)) (ci := 12) (v := .ref hsA) (C := R_Md) (T := F_Md) (N := 83) hx hb hts i_Md hown hK hP 0 rfl rfl 10 (by decide) (hts _ gw_1428) (fun _ h9 => h9) rfl d_Md_store_54 ?_
  refine lv_iload_n hx hb d_Md_store_57 rfl (lv_at hl 0 rfl) ?_
  refine lv_bipush (v := 32) hx hb d_Md_store_58 (by decide) ?_
  refine va_newa (atype := .byte) (ty := .byte) (a0 := (32, .inl (fun _ => 0))) hx hb (hts _ gw_70) rfl hK hP hD hS hA (fun _ => rfl) (by decide) (N' := 32) (by decide) (by decide) (Nat.le_of_ble_eq_true rfl) (Nat.le_of_ble_eq_true rfl) d_Md_store_60 (fun q60 cA H hK hP hD hS => ?_)
  obtain rfl : cB = cA := (xk_u 8 1 hK rfl rfl).symm
  have hK := hK.sub (tys' := [(cI, .int), (cB, .byte), (cL, .long), (cZ, .boolean), (cR, .object "PatchStore$Repository"), (cBB, .array .byte), (cZZ, .array .boolean), (cII, .array .int)]) [0, 1, 2, 3, 4, 5, 6, 7] rfl
  rw [gA_pH] at hP hD
  have hP : va_P (dC, dI) classes ([(md, .inr (12, [md_tape, md_size, md_thrown, md_fault, .ref byM, .int (nI (us + n)), .ref atM, .ref leM, .ref daM, .ref fcM, .ref hsA, .ref dsM, .int (nI (P9 + 1)), md_sort, md_of, md_fileOf, md_one, md_two, md_nameAt, md_nameSize, md_overAt, md_overCount, md_lineAt, md_lineCount, .int (nI cc), md_overs, md_overTotal, md_lineChange, md_textAt, md_textSize, md_lines, md_fileChange, md_fileLines, md_files, md_sets, md_stamp, md_digest, md_in, md_pos, md_stop, md_wrong, .ref dpM, md_named, .int (nI nd), md_own, md_refFile, md_full, .ref hM, md_counts, md_marked, md_namings, md_namingCount, md_listed, md_listedCount, md_listedStamp, md_member, md_text, md_place, md_dead, md_edge, md_way, md_members, md_textLines, md_unsure, md_workedRepository, md_workedFile, md_workedStamp, md_stack, md_before, md_left, md_made, md_madeSize, md_need, md_needs, md_newAt, md_newSize, md_news, md_common, md_keptAs, md_isNew, md_keptFrom, md_stateOf, md_rising])), (inA, .inl (cB, NI, .inl gi)), (byM, .inl (cB, 200000, .inl (va_cpy gi by9 0 us n))), (atM, .inl (cI, 501, .inl (upd at9 P9 (nI us)))), (leM, .inl (cI, 500, .inl (upd le9 P9 (nI n)))), (hsA, .inl (cBB, 500, .inr (.inr (.inr (.inr gh))))), (hM, .inl (cB, 32, .inl h9)), (dsM, .inl (cI, 7000, .inl ds)), (daM, .inl (cI, 501, .inl da)), (dpM, .inl (cI, 2100, .inl dpf)), (fcM, .inl (cI, 501, .inl fcf))] ++ gdA cI cB cZ (G.pH q60 (fun _ => 0))) H := hP
  have hD : va_D A ([(md, .inr (12, [md_tape, md_size, md_thrown, md_fault, .ref byM, .int (nI (us + n)), .ref atM, .ref leM, .ref daM, .ref fcM, .ref hsA, .ref dsM, .int (nI (P9 + 1)), md_sort, md_of, md_fileOf, md_one, md_two, md_nameAt, md_nameSize, md_overAt, md_overCount, md_lineAt, md_lineCount, .int (nI cc), md_overs, md_overTotal, md_lineChange, md_textAt, md_textSize, md_lines, md_fileChange, md_fileLines, md_files, md_sets, md_stamp, md_digest, md_in, md_pos, md_stop, md_wrong, .ref dpM, md_named, .int (nI nd), md_own, md_refFile, md_full, .ref hM, md_counts, md_marked, md_namings, md_namingCount, md_listed, md_listedCount, md_listedStamp, md_member, md_text, md_place, md_dead, md_edge, md_way, md_members, md_textLines, md_unsure, md_workedRepository, md_workedFile, md_workedStamp, md_stack, md_before, md_left, md_made, md_madeSize, md_need, md_needs, md_newAt, md_newSize, md_news, md_common, md_keptAs, md_isNew, md_keptFrom, md_stateOf, md_rising])), (inA, .inl (cB, NI, .inl gi)), (byM, .inl (cB, 200000, .inl (va_cpy gi by9 0 us n))), (atM, .inl (cI, 501, .inl (upd at9 P9 (nI us)))), (leM, .inl (cI, 500, .inl (upd le9 P9 (nI n)))), (hsA, .inl (cBB, 500, .inr (.inr (.inr (.inr gh))))), (hM, .inl (cB, 32, .inl h9)), (dsM, .inl (cI, 7000, .inl ds)), (daM, .inl (cI, 501, .inl da)), (dpM, .inl (cI, 2100, .inl dpf)), (fcM, .inl (cI, 501, .inl fcf))] ++ gdA cI cB cZ (G.pH q60 (fun _ => 0))) := hD
  refine W.widen (k := 1) (n := 32) (Nat.le_of_ble_eq_true rfl) (Nat.le_of_ble_eq_true rfl) ?_
  refine xq_ast hx hb hK hP hD hS 5 5 1 (11 + (1002 + G.n)) rfl rfl rfl (gA_pHl rfl) hTh.2.2.2.2.2.2.1 (vp_in_nI (by omega) (by omega)) d_Md_store_62 (fun H locs hP hD hS => ?_)
  rw [show (nI P9).toNatClampNeg = P9 from nI_clamp (by omega)] at hP hD
  have hP : va_P (dC, dI) classes ([(md, .inr (12, [md_tape, md_size, md_thrown, md_fault, .ref byM, .int (nI (us + n)), .ref atM, .ref leM, .ref daM, .ref fcM, .ref hsA, .ref dsM, .int (nI (P9 + 1)), md_sort, md_of, md_fileOf, md_one, md_two, md_nameAt, md_nameSize, md_overAt, md_overCount, md_lineAt, md_lineCount, .int (nI cc), md_overs, md_overTotal, md_lineChange, md_textAt, md_textSize, md_lines, md_fileChange, md_fileLines, md_files, md_sets, md_stamp, md_digest, md_in, md_pos, md_stop, md_wrong, .ref dpM, md_named, .int (nI nd), md_own, md_refFile, md_full, .ref hM, md_counts, md_marked, md_namings, md_namingCount, md_listed, md_listedCount, md_listedStamp, md_member, md_text, md_place, md_dead, md_edge, md_way, md_members, md_textLines, md_unsure, md_workedRepository, md_workedFile, md_workedStamp, md_stack, md_before, md_left, md_made, md_madeSize, md_need, md_needs, md_newAt, md_newSize, md_news, md_common, md_keptAs, md_isNew, md_keptFrom, md_stateOf, md_rising])), (inA, .inl (cB, NI, .inl gi)), (byM, .inl (cB, 200000, .inl (va_cpy gi by9 0 us n))), (atM, .inl (cI, 501, .inl (upd at9 P9 (nI us)))), (leM, .inl (cI, 500, .inl (upd le9 P9 (nI n)))), (hsA, .inl (cBB, 500, .inr (.inr (.inr (.inr (va_up gh P9 (some q60))))))), (hM, .inl (cB, 32, .inl h9)), (dsM, .inl (cI, 7000, .inl ds)), (daM, .inl (cI, 501, .inl da)), (dpM, .inl (cI, 2100, .inl dpf)), (fcM, .inl (cI, 501, .inl fcf))] ++ gdA cI cB cZ (G.pH q60 (fun _ => 0))) H := hP
  have hD : va_D A ([(md, .inr (12, [md_tape, md_size, md_thrown, md_fault, .ref byM, .int (nI (us + n)), .ref atM, .ref leM, .ref daM, .ref fcM, .ref hsA, .ref dsM, .int (nI (P9 + 1)), md_sort, md_of, md_fileOf, md_one, md_two, md_nameAt, md_nameSize, md_overAt, md_overCount, md_lineAt, md_lineCount, .int (nI cc), md_overs, md_overTotal, md_lineChange, md_textAt, md_textSize, md_lines, md_fileChange, md_fileLines, md_files, md_sets, md_stamp, md_digest, md_in, md_pos, md_stop, md_wrong, .ref dpM, md_named, .int (nI nd), md_own, md_refFile, md_full, .ref hM, md_counts, md_marked, md_namings, md_namingCount, md_listed, md_listedCount, md_listedStamp, md_member, md_text, md_place, md_dead, md_edge, md_way, md_members, md_textLines, md_unsure, md_workedRepository, md_workedFile, md_workedStamp, md_stack, md_before, md_left, md_made, md_madeSize, md_need, md_needs, md_newAt, md_newSize, md_news, md_common, md_keptAs, md_isNew, md_keptFrom, md_stateOf, md_rising])), (inA, .inl (cB, NI, .inl gi)), (byM, .inl (cB, 200000, .inl (va_cpy gi by9 0 us n))), (atM, .inl (cI, 501, .inl (upd at9 P9 (nI us)))), (leM, .inl (cI, 500, .inl (upd le9 P9 (nI n)))), (hsA, .inl (cBB, 500, .inr (.inr (.inr (.inr (va_up gh P9 (some q60))))))), (hM, .inl (cB, 32, .inl h9)), (dsM, .inl (cI, 7000, .inl ds)), (daM, .inl (cI, 501, .inl da)), (dpM, .inl (cI, 2100, .inl dpf)), (fcM, .inl (cI, 501, .inl fcf))] ++ gdA cI cB cZ (G.pH q60 (fun _ => 0))) := hD
  refine lv_aload_n hx hb d_Md_store_63 rfl (lv_at hl 1 rfl) ?_
  refine va_get (D := (dC, dI)) (ci := 12) (v := .ref hM) (C := R_Md) (T := F_Md) (N := 83) hx hb hts i_Md hown hK hP 0 rfl rfl 47 (by decide) (hts _ gw_1465) (fun _ h9 => h9) rfl d_Md_store_64 ?_
  refine lv_iconst (v := 0) hx hb d_Md_store_67 (by decide) ?_
  refine lv_aload_n hx hb d_Md_store_68 rfl (lv_at hl 1 rfl) ?_
  refine va_get (D := (dC, dI)) (ci := 12) (v := .ref hsA) (C := R_Md) (T := F_Md) (N := 83) hx hb hts i_Md hown hK hP 0 rfl rfl 10 (by decide) (hts _ gw_1428) (fun _ h9 => h9) rfl d_Md_store_69 ?_
  refine lv_iload_n hx hb d_Md_store_72 rfl (lv_at hl 0 rfl) ?_
  refine xq_ald hx hb hK hP 5 5 rfl rfl (y := q60) (vp_in_nI (by omega) (by omega)) (by rw [show (nI P9).toNatClampNeg = P9 from nI_clamp (by omega)]; exact (by rw [va_up_self])) d_Md_store_73 ?_
  refine lv_iconst (v := 0) hx hb d_Md_store_74 (by decide) ?_
  refine lv_bipush (v := 32) hx hb d_Md_store_75 (by decide) ?_
  refine va_copyi hx hb (by rw [hml, hl.1]) hown (hts _ gw_1832) (hts _ gw_952) (hts _ gw_951) (hts _ gw_23) hK hP hD hS 6 (11 + (1002 + G.n)) 1 1 rfl (gA_pHl rfl) rfl rfl rfl (by decide) (by decide) (by decide) (by decide) (by decide) (fun i z => hhb _ (by have z2 : i < 32 := z; show 0 + i < 32; omega)) (Nat.le_of_ble_eq_true rfl) (Nat.le_of_ble_eq_true rfl) d_Md_store_77 (fun H locs hP hD hS => ?_)
  rw [gA_pHs (X := [(md, .inr (12, [md_tape, md_size, md_thrown, md_fault, .ref byM, .int (nI (us + n)), .ref atM, .ref leM, .ref daM, .ref fcM, .ref hsA, .ref dsM, .int (nI (P9 + 1)), md_sort, md_of, md_fileOf, md_one, md_two, md_nameAt, md_nameSize, md_overAt, md_overCount, md_lineAt, md_lineCount, .int (nI cc), md_overs, md_overTotal, md_lineChange, md_textAt, md_textSize, md_lines, md_fileChange, md_fileLines, md_files, md_sets, md_stamp, md_digest, md_in, md_pos, md_stop, md_wrong, .ref dpM, md_named, .int (nI nd), md_own, md_refFile, md_full, .ref hM, md_counts, md_marked, md_namings, md_namingCount, md_listed, md_listedCount, md_listedStamp, md_member, md_text, md_place, md_dead, md_edge, md_way, md_members, md_textLines, md_unsure, md_workedRepository, md_workedFile, md_workedStamp, md_stack, md_before, md_left, md_made, md_madeSize, md_need, md_needs, md_newAt, md_newSize, md_news, md_common, md_keptAs, md_isNew, md_keptFrom, md_stateOf, md_rising])), (inA, .inl (cB, NI, .inl gi)), (byM, .inl (cB, 200000, .inl (va_cpy gi by9 0 us n))), (atM, .inl (cI, 501, .inl (upd at9 P9 (nI us)))), (leM, .inl (cI, 500, .inl (upd le9 P9 (nI n)))), (hsA, .inl (cBB, 500, .inr (.inr (.inr (.inr (va_up gh P9 (some q60))))))), (hM, .inl (cB, 32, .inl h9)), (dsM, .inl (cI, 7000, .inl ds)), (daM, .inl (cI, 501, .inl da)), (dpM, .inl (cI, 2100, .inl dpf)), (fcM, .inl (cI, 501, .inl fcf))]) (n := 11) rfl] at hP hD
  have hP : va_P (dC, dI) classes ([(md, .inr (12, [md_tape, md_size, md_thrown, md_fault, .ref byM, .int (nI (us + n)), .ref atM, .ref leM, .ref daM, .ref fcM, .ref hsA, .ref dsM, .int (nI (P9 + 1)), md_sort, md_of, md_fileOf, md_one, md_two, md_nameAt, md_nameSize, md_overAt, md_overCount, md_lineAt, md_lineCount, .int (nI cc), md_overs, md_overTotal, md_lineChange, md_textAt, md_textSize, md_lines, md_fileChange, md_fileLines, md_files, md_sets, md_stamp, md_digest, md_in, md_pos, md_stop, md_wrong, .ref dpM, md_named, .int (nI nd), md_own, md_refFile, md_full, .ref hM, md_counts, md_marked, md_namings, md_namingCount, md_listed, md_listedCount, md_listedStamp, md_member, md_text, md_place, md_dead, md_edge, md_way, md_members, md_textLines, md_unsure, md_workedRepository, md_workedFile, md_workedStamp, md_stack, md_before, md_left, md_made, md_madeSize, md_need, md_needs, md_newAt, md_newSize, md_news, md_common, md_keptAs, md_isNew, md_keptFrom, md_stateOf, md_rising])), (inA, .inl (cB, NI, .inl gi)), (byM, .inl (cB, 200000, .inl (va_cpy gi by9 0 us n))), (atM, .inl (cI, 501, .inl (upd at9 P9 (nI us)))), (leM, .inl (cI, 500, .inl (upd le9 P9 (nI n)))), (hsA, .inl (cBB, 500, .inr (.inr (.inr (.inr (va_up gh P9 (some q60))))))), (hM, .inl (cB, 32, .inl h9)), (dsM, .inl (cI, 7000, .inl ds)), (daM, .inl (cI, 501, .inl da)), (dpM, .inl (cI, 2100, .inl dpf)), (fcM, .inl (cI, 501, .inl fcf))] ++ gdA cI cB cZ (G.pH q60 (va_cpy h9 (fun _ => 0) 0 0 32))) H := hP
  have hD : va_D A ([(md, .inr (12, [md_tape, md_size, md_thrown, md_fault, .ref byM, .int (nI (us + n)), .ref atM, .ref leM, .ref daM, .ref fcM, .ref hsA, .ref dsM, .int (nI (P9 + 1)), md_sort, md_of, md_fileOf, md_one, md_two, md_nameAt, md_nameSize, md_overAt, md_overCount, md_lineAt, md_lineCount, .int (nI cc), md_overs, md_overTotal, md_lineChange, md_textAt, md_textSize, md_lines, md_fileChange, md_fileLines, md_files, md_sets, md_stamp, md_digest, md_in, md_pos, md_stop, md_wrong, .ref dpM, md_named, .int (nI nd), md_own, md_refFile, md_full, .ref hM, md_counts, md_marked, md_namings, md_namingCount, md_listed, md_listedCount, md_listedStamp, md_member, md_text, md_place, md_dead, md_edge, md_way, md_members, md_textLines, md_unsure, md_workedRepository, md_workedFile, md_workedStamp, md_stack, md_before, md_left, md_made, md_madeSize, md_need, md_needs, md_newAt, md_newSize, md_news, md_common, md_keptAs, md_isNew, md_keptFrom, md_stateOf, md_rising])), (inA, .inl (cB, NI, .inl gi)), (byM, .inl (cB, 200000, .inl (va_cpy gi by9 0 us n))), (atM, .inl (cI, 501, .inl (upd at9 P9 (nI us)))), (leM, .inl (cI, 500, .inl (upd le9 P9 (nI n)))), (hsA, .inl (cBB, 500, .inr (.inr (.inr (.inr (va_up gh P9 (some q60))))))), (hM, .inl (cB, 32, .inl h9)), (dsM, .inl (cI, 7000, .inl ds)), (daM, .inl (cI, 501, .inl da)), (dpM, .inl (cI, 2100, .inl dpf)), (fcM, .inl (cI, 501, .inl fcf))] ++ gdA cI cB cZ (G.pH q60 (va_cpy h9 (fun _ => 0) 0 0 32))) := hD
  refine lv_iconst (v := 0) hx hb d_Md_store_80 (by decide) ?_
  refine lv_istore (lv' := [(4, .int 0), (3, .int (nI P9)), (0, .ref md), (1, .ref inA), (2, .int (nI n))]) hx hb d_Md_store_81 hl (by decide) rfl (fun ls hl => ?_)
  have loop_83 : ∀ (n9 : Nat) (k : Nat) (dsu : Nat → Int32) (H : Heap) (locs : List Loc) (ls : Array Slot), nd - k < n9 → (k ≤ nd) → ((∀ i, ¬ (D9 ≤ i ∧ i < D9 + k) → dsu i = ds i) ∧ ∀ i, i < k → dsu (D9 + i) = dpf i) → va_P (dC, dI) classes ([(md, .inr (12, [md_tape, md_size, md_thrown, md_fault, .ref byM, .int (nI (us + n)), .ref atM, .ref leM, .ref daM, .ref fcM, .ref hsA, .ref dsM, .int (nI (P9 + 1)), md_sort, md_of, md_fileOf, md_one, md_two, md_nameAt, md_nameSize, md_overAt, md_overCount, md_lineAt, md_lineCount, .int (nI cc), md_overs, md_overTotal, md_lineChange, md_textAt, md_textSize, md_lines, md_fileChange, md_fileLines, md_files, md_sets, md_stamp, md_digest, md_in, md_pos, md_stop, md_wrong, .ref dpM, md_named, .int (nI nd), md_own, md_refFile, md_full, .ref hM, md_counts, md_marked, md_namings, md_namingCount, md_listed, md_listedCount, md_listedStamp, md_member, md_text, md_place, md_dead, md_edge, md_way, md_members, md_textLines, md_unsure, md_workedRepository, md_workedFile, md_workedStamp, md_stack, md_before, md_left, md_made, md_madeSize, md_need, md_needs, md_newAt, md_newSize, md_news, md_common, md_keptAs, md_isNew, md_keptFrom, md_stateOf, md_rising])), (inA, .inl (cB, NI, .inl gi)), (byM, .inl (cB, 200000, .inl (va_cpy gi by9 0 us n))), (atM, .inl (cI, 501, .inl (upd at9 P9 (nI us)))), (leM, .inl (cI, 500, .inl (upd le9 P9 (nI n)))), (hsA, .inl (cBB, 500, .inr (.inr (.inr (.inr (va_up gh P9 (some q60))))))), (hM, .inl (cB, 32, .inl h9)), (dsM, .inl (cI, 7000, .inl dsu)), (daM, .inl (cI, 501, .inl da)), (dpM, .inl (cI, 2100, .inl dpf)), (fcM, .inl (cI, 501, .inl fcf))] ++ gdA cI cB cZ (G.pH q60 (va_cpy h9 (fun _ => 0) 0 0 32))) H → va_D A ([(md, .inr (12, [md_tape, md_size, md_thrown, md_fault, .ref byM, .int (nI (us + n)), .ref atM, .ref leM, .ref daM, .ref fcM, .ref hsA, .ref dsM, .int (nI (P9 + 1)), md_sort, md_of, md_fileOf, md_one, md_two, md_nameAt, md_nameSize, md_overAt, md_overCount, md_lineAt, md_lineCount, .int (nI cc), md_overs, md_overTotal, md_lineChange, md_textAt, md_textSize, md_lines, md_fileChange, md_fileLines, md_files, md_sets, md_stamp, md_digest, md_in, md_pos, md_stop, md_wrong, .ref dpM, md_named, .int (nI nd), md_own, md_refFile, md_full, .ref hM, md_counts, md_marked, md_namings, md_namingCount, md_listed, md_listedCount, md_listedStamp, md_member, md_text, md_place, md_dead, md_edge, md_way, md_members, md_textLines, md_unsure, md_workedRepository, md_workedFile, md_workedStamp, md_stack, md_before, md_left, md_made, md_madeSize, md_need, md_needs, md_newAt, md_newSize, md_news, md_common, md_keptAs, md_isNew, md_keptFrom, md_stateOf, md_rising])), (inA, .inl (cB, NI, .inl gi)), (byM, .inl (cB, 200000, .inl (va_cpy gi by9 0 us n))), (atM, .inl (cI, 501, .inl (upd at9 P9 (nI us)))), (leM, .inl (cI, 500, .inl (upd le9 P9 (nI n)))), (hsA, .inl (cBB, 500, .inr (.inr (.inr (.inr (va_up gh P9 (some q60))))))), (hM, .inl (cB, 32, .inl h9)), (dsM, .inl (cI, 7000, .inl dsu)), (daM, .inl (cI, 501, .inl da)), (dpM, .inl (cI, 2100, .inl dpf)), (fcM, .inl (cI, 501, .inl fcf))] ++ gdA cI cB cZ (G.pH q60 (va_cpy h9 (fun _ => 0) 0 0 32))) → va_S A s.heap H locs → lv_has ls 5 [(0, .ref md), (2, .int (nI n)), (3, .int (nI P9)), (4, .int (nI k))] → W p l e (headSpec ws_Md_store ({ frames := 1, cells := 1, slots := 32, locals := 60 })).room s m ([.ref md, .ref inA, .int (nI n)] : List Value).toArray below meth c H locs 1 32 Q (F0 m 83 ls []) := by
    intro n9
    induction n9 with
    | zero => intro k dsu H locs ls hm; exact absurd hm (Nat.not_lt_zero _)
    | succ n9 ih_83 =>
      intro k dsu H locs ls hm hk hds hP hD hS hl
      refine lv_iload hx hb d_Md_store_83 (lv_at hl 3 rfl) ?_
      refine lv_aload_n hx hb d_Md_store_85 rfl (lv_at hl 0 rfl) ?_
      refine va_get (D := (dC, dI)) (ci := 12) (v := .int (nI nd)) (C := R_Md) (T := F_Md) (N := 83) hx hb hts i_Md hown hK hP 0 rfl rfl 43 (by decide) (hts _ gw_1461) (fun _ h9 => h9) rfl d_Md_store_86 ?_
      refine lv_icmp_ge (tgt := 119) hx hb d_Md_store_89 (by decide) (fun c_89 => ?_) (fun c_89 => ?_)
      · have n_89 : nd ≤ k := (nI_leI (a := nd) (b := k) (by omega) (by omega)).mp c_89
        refine lv_aload_n hx hb d_Md_store_119 rfl (lv_at hl 0 rfl) ?_
        refine va_get (D := (dC, dI)) (ci := 12) (v := .ref daM) (C := R_Md) (T := F_Md) (N := 83) hx hb hts i_Md hown hK hP 0 rfl rfl 8 (by decide) (hts _ gw_1426) (fun _ h9 => h9) rfl d_Md_store_120 ?_
        refine lv_iload_n hx hb d_Md_store_123 rfl (lv_at hl 2 rfl) ?_
        refine lv_iconst (v := 1) hx hb d_Md_store_124 (by decide) ?_
        refine lv_iadd hx hb d_Md_store_125 ?_
        refine lv_topi (fun x_3 ex_3 => ?_)
        obtain rfl : x_3 = nI (P9 + 1) := by rw [ex_3]; first | done | (exact nI_add _ _)
        refine lv_aload_n hx hb d_Md_store_126 rfl (lv_at hl 0 rfl) ?_
        refine va_get (D := (dC, dI)) (ci := 12) (v := .ref daM) (C := R_Md) (T := F_Md) (N := 83) hx hb hts i_Md hown hK hP 0 rfl rfl 8 (by decide) (hts _ gw_1426) (fun _ h9 => h9) rfl d_Md_store_127 ?_
        refine lv_iload_n hx hb d_Md_store_130 rfl (lv_at hl 2 rfl) ?_
        refine va_iald hx hb hK hP 8 0 rfl rfl (vp_in_nI (by omega) (by omega)) d_Md_store_131 ?_
        rw [show (nI P9).toNatClampNeg = P9 from nI_clamp (by omega)]
        refine lv_topi (fun x_4 ex_4 => ?_)
        obtain rfl : x_4 = nI D9 := by rw [ex_4]; first | done | (exact hda)
        refine lv_aload_n hx hb d_Md_store_132 rfl (lv_at hl 0 rfl) ?_
        refine va_get (D := (dC, dI)) (ci := 12) (v := .int (nI nd)) (C := R_Md) (T := F_Md) (N := 83) hx hb hts i_Md hown hK hP 0 rfl rfl 43 (by decide) (hts _ gw_1461) (fun _ h9 => h9) rfl d_Md_store_133 ?_
        refine lv_iadd hx hb d_Md_store_136 ?_
        refine lv_topi (fun x_5 ex_5 => ?_)
        obtain rfl : x_5 = nI (D9 + nd) := by rw [ex_5]; first | done | (exact nI_add _ _)
        refine va_iast hx hb hK hP hD hS 8 0 rfl rfl (vp_in_nI (by omega) (by omega)) d_Md_store_137 (fun H locs hP hD hS => ?_)
        rw [show (nI (P9 + 1)).toNatClampNeg = (P9 + 1) from nI_clamp (by omega)] at hP hD
        have hP : va_P (dC, dI) classes ([(md, .inr (12, [md_tape, md_size, md_thrown, md_fault, .ref byM, .int (nI (us + n)), .ref atM, .ref leM, .ref daM, .ref fcM, .ref hsA, .ref dsM, .int (nI (P9 + 1)), md_sort, md_of, md_fileOf, md_one, md_two, md_nameAt, md_nameSize, md_overAt, md_overCount, md_lineAt, md_lineCount, .int (nI cc), md_overs, md_overTotal, md_lineChange, md_textAt, md_textSize, md_lines, md_fileChange, md_fileLines, md_files, md_sets, md_stamp, md_digest, md_in, md_pos, md_stop, md_wrong, .ref dpM, md_named, .int (nI nd), md_own, md_refFile, md_full, .ref hM, md_counts, md_marked, md_namings, md_namingCount, md_listed, md_listedCount, md_listedStamp, md_member, md_text, md_place, md_dead, md_edge, md_way, md_members, md_textLines, md_unsure, md_workedRepository, md_workedFile, md_workedStamp, md_stack, md_before, md_left, md_made, md_madeSize, md_need, md_needs, md_newAt, md_newSize, md_news, md_common, md_keptAs, md_isNew, md_keptFrom, md_stateOf, md_rising])), (inA, .inl (cB, NI, .inl gi)), (byM, .inl (cB, 200000, .inl (va_cpy gi by9 0 us n))), (atM, .inl (cI, 501, .inl (upd at9 P9 (nI us)))), (leM, .inl (cI, 500, .inl (upd le9 P9 (nI n)))), (hsA, .inl (cBB, 500, .inr (.inr (.inr (.inr (va_up gh P9 (some q60))))))), (hM, .inl (cB, 32, .inl h9)), (dsM, .inl (cI, 7000, .inl dsu)), (daM, .inl (cI, 501, .inl (upd da (P9 + 1) (nI (D9 + nd))))), (dpM, .inl (cI, 2100, .inl dpf)), (fcM, .inl (cI, 501, .inl fcf))] ++ gdA cI cB cZ (G.pH q60 (va_cpy h9 (fun _ => 0) 0 0 32))) H := hP
        have hD : va_D A ([(md, .inr (12, [md_tape, md_size, md_thrown, md_fault, .ref byM, .int (nI (us + n)), .ref atM, .ref leM, .ref daM, .ref fcM, .ref hsA, .ref dsM, .int (nI (P9 + 1)), md_sort, md_of, md_fileOf, md_one, md_two, md_nameAt, md_nameSize, md_overAt, md_overCount, md_lineAt, md_lineCount, .int (nI cc), md_overs, md_overTotal, md_lineChange, md_textAt, md_textSize, md_lines, md_fileChange, md_fileLines, md_files, md_sets, md_stamp, md_digest, md_in, md_pos, md_stop, md_wrong, .ref dpM, md_named, .int (nI nd), md_own, md_refFile, md_full, .ref hM, md_counts, md_marked, md_namings, md_namingCount, md_listed, md_listedCount, md_listedStamp, md_member, md_text, md_place, md_dead, md_edge, md_way, md_members, md_textLines, md_unsure, md_workedRepository, md_workedFile, md_workedStamp, md_stack, md_before, md_left, md_made, md_madeSize, md_need, md_needs, md_newAt, md_newSize, md_news, md_common, md_keptAs, md_isNew, md_keptFrom, md_stateOf, md_rising])), (inA, .inl (cB, NI, .inl gi)), (byM, .inl (cB, 200000, .inl (va_cpy gi by9 0 us n))), (atM, .inl (cI, 501, .inl (upd at9 P9 (nI us)))), (leM, .inl (cI, 500, .inl (upd le9 P9 (nI n)))), (hsA, .inl (cBB, 500, .inr (.inr (.inr (.inr (va_up gh P9 (some q60))))))), (hM, .inl (cB, 32, .inl h9)), (dsM, .inl (cI, 7000, .inl dsu)), (daM, .inl (cI, 501, .inl (upd da (P9 + 1) (nI (D9 + nd))))), (dpM, .inl (cI, 2100, .inl dpf)), (fcM, .inl (cI, 501, .inl fcf))] ++ gdA cI cB cZ (G.pH q60 (va_cpy h9 (fun _ => 0) 0 0 32))) := hD
        refine lv_aload_n hx hb d_Md_store_138 rfl (lv_at hl 0 rfl) ?_
        refine va_get (D := (dC, dI)) (ci := 12) (v := .ref fcM) (C := R_Md) (T := F_Md) (N := 83) hx hb hts i_Md hown hK hP 0 rfl rfl 9 (by decide) (hts _ gw_1427) (fun _ h9 => h9) rfl d_Md_store_139 ?_
        refine lv_iload_n hx hb d_Md_store_142 rfl (lv_at hl 2 rfl) ?_
        refine lv_iconst (v := 1) hx hb d_Md_store_143 (by decide) ?_
        refine lv_iadd hx hb d_Md_store_144 ?_
        refine lv_topi (fun x_6 ex_6 => ?_)
        obtain rfl : x_6 = nI (P9 + 1) := by rw [ex_6]; first | done | (exact nI_add _ _)
        refine lv_aload_n hx hb d_Md_store_145 rfl (lv_at hl 0 rfl) ?_
        refine va_get (D := (dC, dI)) (ci := 12) (v := .int (nI cc)) (C := R_Md) (T := F_Md) (N := 83) hx hb hts i_Md hown hK hP 0 rfl rfl 24 (by decide) (hts _ gw_1442) (fun _ h9 => h9) rfl d_Md_store_146 ?_
        refine va_iast hx hb hK hP hD hS 10 0 rfl rfl (vp_in_nI (by omega) (by omega)) d_Md_store_149 (fun H locs hP hD hS => ?_)
        rw [show (nI (P9 + 1)).toNatClampNeg = (P9 + 1) from nI_clamp (by omega)] at hP hD
        have hP : va_P (dC, dI) classes ([(md, .inr (12, [md_tape, md_size, md_thrown, md_fault, .ref byM, .int (nI (us + n)), .ref atM, .ref leM, .ref daM, .ref fcM, .ref hsA, .ref dsM, .int (nI (P9 + 1)), md_sort, md_of, md_fileOf, md_one, md_two, md_nameAt, md_nameSize, md_overAt, md_overCount, md_lineAt, md_lineCount, .int (nI cc), md_overs, md_overTotal, md_lineChange, md_textAt, md_textSize, md_lines, md_fileChange, md_fileLines, md_files, md_sets, md_stamp, md_digest, md_in, md_pos, md_stop, md_wrong, .ref dpM, md_named, .int (nI nd), md_own, md_refFile, md_full, .ref hM, md_counts, md_marked, md_namings, md_namingCount, md_listed, md_listedCount, md_listedStamp, md_member, md_text, md_place, md_dead, md_edge, md_way, md_members, md_textLines, md_unsure, md_workedRepository, md_workedFile, md_workedStamp, md_stack, md_before, md_left, md_made, md_madeSize, md_need, md_needs, md_newAt, md_newSize, md_news, md_common, md_keptAs, md_isNew, md_keptFrom, md_stateOf, md_rising])), (inA, .inl (cB, NI, .inl gi)), (byM, .inl (cB, 200000, .inl (va_cpy gi by9 0 us n))), (atM, .inl (cI, 501, .inl (upd at9 P9 (nI us)))), (leM, .inl (cI, 500, .inl (upd le9 P9 (nI n)))), (hsA, .inl (cBB, 500, .inr (.inr (.inr (.inr (va_up gh P9 (some q60))))))), (hM, .inl (cB, 32, .inl h9)), (dsM, .inl (cI, 7000, .inl dsu)), (daM, .inl (cI, 501, .inl (upd da (P9 + 1) (nI (D9 + nd))))), (dpM, .inl (cI, 2100, .inl dpf)), (fcM, .inl (cI, 501, .inl (upd fcf (P9 + 1) (nI cc))))] ++ gdA cI cB cZ (G.pH q60 (va_cpy h9 (fun _ => 0) 0 0 32))) H := hP
        have hD : va_D A ([(md, .inr (12, [md_tape, md_size, md_thrown, md_fault, .ref byM, .int (nI (us + n)), .ref atM, .ref leM, .ref daM, .ref fcM, .ref hsA, .ref dsM, .int (nI (P9 + 1)), md_sort, md_of, md_fileOf, md_one, md_two, md_nameAt, md_nameSize, md_overAt, md_overCount, md_lineAt, md_lineCount, .int (nI cc), md_overs, md_overTotal, md_lineChange, md_textAt, md_textSize, md_lines, md_fileChange, md_fileLines, md_files, md_sets, md_stamp, md_digest, md_in, md_pos, md_stop, md_wrong, .ref dpM, md_named, .int (nI nd), md_own, md_refFile, md_full, .ref hM, md_counts, md_marked, md_namings, md_namingCount, md_listed, md_listedCount, md_listedStamp, md_member, md_text, md_place, md_dead, md_edge, md_way, md_members, md_textLines, md_unsure, md_workedRepository, md_workedFile, md_workedStamp, md_stack, md_before, md_left, md_made, md_madeSize, md_need, md_needs, md_newAt, md_newSize, md_news, md_common, md_keptAs, md_isNew, md_keptFrom, md_stateOf, md_rising])), (inA, .inl (cB, NI, .inl gi)), (byM, .inl (cB, 200000, .inl (va_cpy gi by9 0 us n))), (atM, .inl (cI, 501, .inl (upd at9 P9 (nI us)))), (leM, .inl (cI, 500, .inl (upd le9 P9 (nI n)))), (hsA, .inl (cBB, 500, .inr (.inr (.inr (.inr (va_up gh P9 (some q60))))))), (hM, .inl (cB, 32, .inl h9)), (dsM, .inl (cI, 7000, .inl dsu)), (daM, .inl (cI, 501, .inl (upd da (P9 + 1) (nI (D9 + nd))))), (dpM, .inl (cI, 2100, .inl dpf)), (fcM, .inl (cI, 501, .inl (upd fcf (P9 + 1) (nI cc))))] ++ gdA cI cB cZ (G.pH q60 (va_cpy h9 (fun _ => 0) 0 0 32))) := hD
        rw [← hQe]
        exact W.vret hx hb hr (fun t ht hW => ⟨⟨(q60, dsu), rfl, by rw [show nd = k by omega]; exact hds, by rw [ht]; exact hP, va_K.moved hW.alike hK, hD⟩, hS.F ht⟩) hS.2.2 d_Md_store_150
      · have n_89 : k < nd := Nat.lt_of_not_le (fun z => c_89 ((nI_leI (a := nd) (b := k) (by omega) (by omega)).mpr z))
        refine lv_aload_n hx hb d_Md_store_92 rfl (lv_at hl 0 rfl) ?_
        refine va_get (D := (dC, dI)) (ci := 12) (v := .ref dsM) (C := R_Md) (T := F_Md) (N := 83) hx hb hts i_Md hown hK hP 0 rfl rfl 11 (by decide) (hts _ gw_1429) (fun _ h9 => h9) rfl d_Md_store_93 ?_
        refine lv_aload_n hx hb d_Md_store_96 rfl (lv_at hl 0 rfl) ?_
        refine va_get (D := (dC, dI)) (ci := 12) (v := .ref daM) (C := R_Md) (T := F_Md) (N := 83) hx hb hts i_Md hown hK hP 0 rfl rfl 8 (by decide) (hts _ gw_1426) (fun _ h9 => h9) rfl d_Md_store_97 ?_
        refine lv_iload_n hx hb d_Md_store_100 rfl (lv_at hl 2 rfl) ?_
        refine va_iald hx hb hK hP 8 0 rfl rfl (vp_in_nI (by omega) (by omega)) d_Md_store_101 ?_
        rw [show (nI P9).toNatClampNeg = P9 from nI_clamp (by omega)]
        refine lv_topi (fun x_7 ex_7 => ?_)
        obtain rfl : x_7 = nI D9 := by rw [ex_7]; first | done | (exact hda)
        refine lv_iload hx hb d_Md_store_102 (lv_at hl 3 rfl) ?_
        refine lv_iadd hx hb d_Md_store_104 ?_
        refine lv_topi (fun x_8 ex_8 => ?_)
        obtain rfl : x_8 = nI (D9 + k) := by rw [ex_8]; first | done | (exact nI_add _ _)
        refine lv_aload_n hx hb d_Md_store_105 rfl (lv_at hl 0 rfl) ?_
        refine va_get (D := (dC, dI)) (ci := 12) (v := .ref dpM) (C := R_Md) (T := F_Md) (N := 83) hx hb hts i_Md hown hK hP 0 rfl rfl 41 (by decide) (hts _ gw_1459) (fun _ h9 => h9) rfl d_Md_store_106 ?_
        refine lv_iload hx hb d_Md_store_109 (lv_at hl 3 rfl) ?_
        refine va_iald hx hb hK hP 9 0 rfl rfl (vp_in_nI (by omega) (by omega)) d_Md_store_111 ?_
        rw [show (nI k).toNatClampNeg = k from nI_clamp (by omega)]
        refine va_iast hx hb hK hP hD hS 7 0 rfl rfl (vp_in_nI (by omega) (by omega)) d_Md_store_112 (fun H locs hP hD hS => ?_)
        rw [show (nI (D9 + k)).toNatClampNeg = (D9 + k) from nI_clamp (by omega)] at hP hD
        have hP : va_P (dC, dI) classes ([(md, .inr (12, [md_tape, md_size, md_thrown, md_fault, .ref byM, .int (nI (us + n)), .ref atM, .ref leM, .ref daM, .ref fcM, .ref hsA, .ref dsM, .int (nI (P9 + 1)), md_sort, md_of, md_fileOf, md_one, md_two, md_nameAt, md_nameSize, md_overAt, md_overCount, md_lineAt, md_lineCount, .int (nI cc), md_overs, md_overTotal, md_lineChange, md_textAt, md_textSize, md_lines, md_fileChange, md_fileLines, md_files, md_sets, md_stamp, md_digest, md_in, md_pos, md_stop, md_wrong, .ref dpM, md_named, .int (nI nd), md_own, md_refFile, md_full, .ref hM, md_counts, md_marked, md_namings, md_namingCount, md_listed, md_listedCount, md_listedStamp, md_member, md_text, md_place, md_dead, md_edge, md_way, md_members, md_textLines, md_unsure, md_workedRepository, md_workedFile, md_workedStamp, md_stack, md_before, md_left, md_made, md_madeSize, md_need, md_needs, md_newAt, md_newSize, md_news, md_common, md_keptAs, md_isNew, md_keptFrom, md_stateOf, md_rising])), (inA, .inl (cB, NI, .inl gi)), (byM, .inl (cB, 200000, .inl (va_cpy gi by9 0 us n))), (atM, .inl (cI, 501, .inl (upd at9 P9 (nI us)))), (leM, .inl (cI, 500, .inl (upd le9 P9 (nI n)))), (hsA, .inl (cBB, 500, .inr (.inr (.inr (.inr (va_up gh P9 (some q60))))))), (hM, .inl (cB, 32, .inl h9)), (dsM, .inl (cI, 7000, .inl (upd dsu (D9 + k) (dpf k)))), (daM, .inl (cI, 501, .inl da)), (dpM, .inl (cI, 2100, .inl dpf)), (fcM, .inl (cI, 501, .inl fcf))] ++ gdA cI cB cZ (G.pH q60 (va_cpy h9 (fun _ => 0) 0 0 32))) H := hP
        have hD : va_D A ([(md, .inr (12, [md_tape, md_size, md_thrown, md_fault, .ref byM, .int (nI (us + n)), .ref atM, .ref leM, .ref daM, .ref fcM, .ref hsA, .ref dsM, .int (nI (P9 + 1)), md_sort, md_of, md_fileOf, md_one, md_two, md_nameAt, md_nameSize, md_overAt, md_overCount, md_lineAt, md_lineCount, .int (nI cc), md_overs, md_overTotal, md_lineChange, md_textAt, md_textSize, md_lines, md_fileChange, md_fileLines, md_files, md_sets, md_stamp, md_digest, md_in, md_pos, md_stop, md_wrong, .ref dpM, md_named, .int (nI nd), md_own, md_refFile, md_full, .ref hM, md_counts, md_marked, md_namings, md_namingCount, md_listed, md_listedCount, md_listedStamp, md_member, md_text, md_place, md_dead, md_edge, md_way, md_members, md_textLines, md_unsure, md_workedRepository, md_workedFile, md_workedStamp, md_stack, md_before, md_left, md_made, md_madeSize, md_need, md_needs, md_newAt, md_newSize, md_news, md_common, md_keptAs, md_isNew, md_keptFrom, md_stateOf, md_rising])), (inA, .inl (cB, NI, .inl gi)), (byM, .inl (cB, 200000, .inl (va_cpy gi by9 0 us n))), (atM, .inl (cI, 501, .inl (upd at9 P9 (nI us)))), (leM, .inl (cI, 500, .inl (upd le9 P9 (nI n)))), (hsA, .inl (cBB, 500, .inr (.inr (.inr (.inr (va_up gh P9 (some q60))))))), (hM, .inl (cB, 32, .inl h9)), (dsM, .inl (cI, 7000, .inl (upd dsu (D9 + k) (dpf k)))), (daM, .inl (cI, 501, .inl da)), (dpM, .inl (cI, 2100, .inl dpf)), (fcM, .inl (cI, 501, .inl fcf))] ++ gdA cI cB cZ (G.pH q60 (va_cpy h9 (fun _ => 0) 0 0 32))) := hD
        refine lv_iinc (v := nI (k + 1)) (lv' := [(4, .int (nI (k + 1))), (0, .ref md), (2, .int (nI n)), (3, .int (nI P9))]) hx hb d_Md_store_113 hl (k := 3) rfl (by exact nI_add _ _) (by decide) rfl (fun ls hl => ?_)
        refine lv_goto (tgt := 83) hx hb d_Md_store_116 (by decide) ?_
        exact ih_83 (k + 1) (upd dsu (D9 + k) (dpf k)) _ _ _ (by omega) (by omega) (⟨fun i z => (upd_ne _ (by omega)).trans (hds.1 i (by omega)), fun i z => if e9 : i = k then by rw [e9, upd_eq] else (upd_ne _ (by omega)).trans (hds.2 i (by omega))⟩) hP hD hS (lv_sub hl [1, 2, 3, 0] rfl)
  exact loop_83 _ 0 ds _ _ _ (Nat.lt_succ_self _) (Nat.zero_le _) (⟨fun i _ => rfl, fun i z => absurd z (Nat.not_lt_zero _)⟩) hP hD hS (lv_sub hl [2, 4, 1, 0] rfl)
end
section
/-! 99zo.rows.lean.txt -/
/-- the reference's rows -/
def Mda : Type := (Nat → Int32) × (Nat → Int32) × (Nat → Int32) × (Nat → Int32) × (Nat → Int32) × (Nat → Int32) × (Nat → Int32) × (Nat → Int32) × (Nat → Int32) × (Nat → Int32) × (Nat → Int32) × (Nat → Int32) × (Nat → Int32) × (Nat → Int32) × (Nat → Int32) × (Nat → Int32) × (Nat → Int32) × (Nat → Int32) × (Nat → Int32) × (Nat → Int32) × (Nat → Int32) × (Nat → Int32) × (Nat → Int32) × (Nat → Option Nat) × Nat
def Mda.by₇ (z9 : Mda) : Nat → Int32 := z9.1
def Mda.at₇ (z9 : Mda) : Nat → Int32 := z9.2.1
def Mda.le (z9 : Mda) : Nat → Int32 := z9.2.2.1
def Mda.da (z9 : Mda) : Nat → Int32 := z9.2.2.2.1
def Mda.fc (z9 : Mda) : Nat → Int32 := z9.2.2.2.2.1
def Mda.ds (z9 : Mda) : Nat → Int32 := z9.2.2.2.2.2.1
def Mda.so (z9 : Mda) : Nat → Int32 := z9.2.2.2.2.2.2.1
def Mda.of (z9 : Mda) : Nat → Int32 := z9.2.2.2.2.2.2.2.1
def Mda.fo (z9 : Mda) : Nat → Int32 := z9.2.2.2.2.2.2.2.2.1
def Mda.on (z9 : Mda) : Nat → Int32 := z9.2.2.2.2.2.2.2.2.2.1
def Mda.tw (z9 : Mda) : Nat → Int32 := z9.2.2.2.2.2.2.2.2.2.2.1
def Mda.nt (z9 : Mda) : Nat → Int32 := z9.2.2.2.2.2.2.2.2.2.2.2.1
def Mda.ns (z9 : Mda) : Nat → Int32 := z9.2.2.2.2.2.2.2.2.2.2.2.2.1
def Mda.oa (z9 : Mda) : Nat → Int32 := z9.2.2.2.2.2.2.2.2.2.2.2.2.2.1
def Mda.oc (z9 : Mda) : Nat → Int32 := z9.2.2.2.2.2.2.2.2.2.2.2.2.2.2.1
def Mda.la (z9 : Mda) : Nat → Int32 := z9.2.2.2.2.2.2.2.2.2.2.2.2.2.2.2.1
def Mda.lc (z9 : Mda) : Nat → Int32 := z9.2.2.2.2.2.2.2.2.2.2.2.2.2.2.2.2.1
def Mda.ov (z9 : Mda) : Nat → Int32 := z9.2.2.2.2.2.2.2.2.2.2.2.2.2.2.2.2.2.1
def Mda.lh (z9 : Mda) : Nat → Int32 := z9.2.2.2.2.2.2.2.2.2.2.2.2.2.2.2.2.2.2.1
def Mda.ta (z9 : Mda) : Nat → Int32 := z9.2.2.2.2.2.2.2.2.2.2.2.2.2.2.2.2.2.2.2.1
def Mda.ts (z9 : Mda) : Nat → Int32 := z9.2.2.2.2.2.2.2.2.2.2.2.2.2.2.2.2.2.2.2.2.1
def Mda.fh (z9 : Mda) : Nat → Int32 := z9.2.2.2.2.2.2.2.2.2.2.2.2.2.2.2.2.2.2.2.2.2.1
def Mda.fl (z9 : Mda) : Nat → Int32 := z9.2.2.2.2.2.2.2.2.2.2.2.2.2.2.2.2.2.2.2.2.2.2.1
def Mda.gh (z9 : Mda) : Nat → Option Nat := z9.2.2.2.2.2.2.2.2.2.2.2.2.2.2.2.2.2.2.2.2.2.2.2.1
def Mda.ot (z9 : Mda) : Nat := z9.2.2.2.2.2.2.2.2.2.2.2.2.2.2.2.2.2.2.2.2.2.2.2.2
def Mda.mk (by9 : Nat → Int32) (at9 : Nat → Int32) (le9 : Nat → Int32) (da9 : Nat → Int32) (fc9 : Nat → Int32) (ds9 : Nat → Int32) (so9 : Nat → Int32) (of9 : Nat → Int32) (fo9 : Nat → Int32) (on9 : Nat → Int32) (tw9 : Nat → Int32) (nt9 : Nat → Int32) (ns9 : Nat → Int32) (oa9 : Nat → Int32) (oc9 : Nat → Int32) (la9 : Nat → Int32) (lc9 : Nat → Int32) (ov9 : Nat → Int32) (lh9 : Nat → Int32) (ta9 : Nat → Int32) (ts9 : Nat → Int32) (fh9 : Nat → Int32) (fl9 : Nat → Int32) (gh9 : Nat → Option Nat) (ot9 : Nat) : Mda := (by9, at9, le9, da9, fc9, ds9, so9, of9, fo9, on9, tw9, nt9, ns9, oa9, oc9, la9, lc9, ov9, lh9, ta9, ts9, fh9, fl9, gh9, ot9)
/-- the reference's rows hold change x of patch P -/
def chZ (f : Nat → Int32) (DP FC CA CL : Nat → Nat) (P nd x NF o : Nat) (Z : Mda) : Prop := (f (CA x) = 0 ∨ f (CA x) = 1 → Z.ns x = nI (b8 (f (nmAt f (CA x)))) ∧ Z.nt x = nI (nmAt f (CA x) + 1)) ∧ (¬ (f (CA x) = 0 ∨ f (CA x) = 1) → Z.ns x = 0) ∧ (f (CA x) = 1 → Z.oc x = nI (b8 (f (CA x + 5))) ∧ Z.oa x = nI o ∧ o + b8 (f (CA x + 5)) ≤ Z.ot ∧ ∀ i, i < b8 (f (CA x + 5)) → ∃ z, cnR f DP FC P nd x (CA x + 6 + 4 * i) z ∧ Z.ov (o + i) = nI z) ∧ (¬ f (CA x) = 1 → Z.oc x = 0) ∧ (f (CA x) = 2 → Z.la x = nI (CL x) ∧ Z.lc x = nI (tw f (lnAt f (CA x))) ∧ upR f DP FC CL P nd x (CA x + 5) (Z.on x) ∧ upR f DP FC CL P nd x (plEnd f (CA x + 5)) (Z.tw x) ∧ ∀ q, q < tw f (lnAt f (CA x)) → CL x + q < 4000 → Z.lh (CL x + q) = nI x ∧ Z.ta (CL x + q) = nI (lnP f (lnAt f (CA x) + 2) q + 2) ∧ Z.ts (CL x + q) = nI (tw f (lnP f (lnAt f (CA x) + 2) q))) ∧ (¬ f (CA x) = 2 → Z.lc x = 0) ∧ (f (CA x) = 3 ∨ f (CA x) = 4 → ∃ z, cnR f DP FC P nd x (CA x + 1) z ∧ Z.on x = nI (CL z + tw f (CA x + 1 + 4))) ∧ (f (CA x) = 4 → ∃ z, cnR f DP FC P nd x (CA x + 7) z ∧ Z.tw x = nI (CL z + tw f (CA x + 7 + 4))) ∧ (f (CA x) = 0 → NF < 200 → Z.fh NF = nI x)
/-- rows that hold the same below bounds -/
def frM (c0 NL0 NF0 : Nat) (Z Zu : Mda) : Prop := (∀ i, i < c0 → Zu.so i = Z.so i ∧ Zu.of i = Z.of i ∧ Zu.fo i = Z.fo i ∧ Zu.on i = Z.on i ∧ Zu.tw i = Z.tw i ∧ Zu.nt i = Z.nt i ∧ Zu.ns i = Z.ns i ∧ Zu.oa i = Z.oa i ∧ Zu.oc i = Z.oc i ∧ Zu.la i = Z.la i ∧ Zu.lc i = Z.lc i) ∧ (∀ i, i < Z.ot → Zu.ov i = Z.ov i) ∧ Z.ot ≤ Zu.ot ∧ (∀ i, i < NL0 → Zu.lh i = Z.lh i ∧ Zu.ta i = Z.ta i ∧ Zu.ts i = Z.ts i) ∧ ∀ i, i < NF0 → Zu.fh i = Z.fh i
theorem frM.rf (c0 NL0 NF0 : Nat) (Z : Mda) : frM c0 NL0 NF0 Z Z := ⟨fun _ _ => ⟨rfl, rfl, rfl, rfl, rfl, rfl, rfl, rfl, rfl, rfl, rfl⟩, fun _ _ => rfl, Nat.le_refl _, fun _ _ => ⟨rfl, rfl, rfl⟩, fun _ _ => rfl⟩
theorem frM.trans {c0 NL0 NF0 c1 NL1 NF1 : Nat} {Z Z1 Z2 : Mda} (h1 : frM c0 NL0 NF0 Z Z1) (h2 : frM c1 NL1 NF1 Z1 Z2) (ec : c0 ≤ c1) (el : NL0 ≤ NL1) (ef : NF0 ≤ NF1) : frM c0 NL0 NF0 Z Z2 := by
  refine ⟨fun i hi => ?_, fun i hi => (h2.2.1 i (by have := h1.2.2.1; omega)).trans (h1.2.1 i hi), Nat.le_trans h1.2.2.1 h2.2.2.1, fun i hi => ?_, fun i hi => (h2.2.2.2.2 i (by omega)).trans (h1.2.2.2.2 i hi)⟩
  · obtain ⟨a1, a2, a3, a4, a5, a6, a7, a8, a9, a10, a11⟩ := h1.1 i hi
    obtain ⟨b1, b2, b3, b4, b5, b6, b7, b8', b9, b10, b11⟩ := h2.1 i (by omega)
    exact ⟨b1.trans a1, b2.trans a2, b3.trans a3, b4.trans a4, b5.trans a5, b6.trans a6, b7.trans a7, b8'.trans a8, b9.trans a9, b10.trans a10, b11.trans a11⟩
  · obtain ⟨a1, a2, a3⟩ := h1.2.2.2.1 i hi
    obtain ⟨b1, b2, b3⟩ := h2.2.2.2.1 i (by omega)
    exact ⟨b1.trans a1, b2.trans a2, b3.trans a3⟩
theorem chZ.step {f : Nat → Int32} {DP FC CA CL : Nat → Nat} {P nd x NF o c0 NL0 NF0 : Nat} {Z Z1 : Mda} (h : chZ f DP FC CA CL P nd x NF o Z) (hf : frM c0 NL0 NF0 Z Z1) (hx : x < c0) (hl : f (CA x) = 2 → CL x + tw f (lnAt f (CA x)) ≤ NL0) (hn : f (CA x) = 0 → NF < NF0) : chZ f DP FC CA CL P nd x NF o Z1 := by
  obtain ⟨a1, a2, a3, a4, a5, a6, a7, a8, a9, a10, a11⟩ := hf.1 x hx
  obtain ⟨h1, h2, h3, h4, h5, h6, h7, h8, h9⟩ := h
  unfold chZ
  rw [a7, a6, a9, a8, a10, a11, a4, a5]
  refine ⟨h1, h2, fun k => ?_, h4, fun k => ?_, h6, h7, h8, fun k z => (hf.2.2.2.2 _ (hn k)).trans (h9 k z)⟩
  · obtain ⟨b1, b2, b3, b4⟩ := h3 k
    refine ⟨b1, b2, Nat.le_trans b3 hf.2.2.1, fun i hi => ?_⟩
    obtain ⟨z, y1, y2⟩ := b4 i hi
    exact ⟨z, y1, (hf.2.1 _ (by omega)).trans y2⟩
  · obtain ⟨b1, b2, b3, b4, b5⟩ := h5 k
    refine ⟨b1, b2, b3, b4, fun q hq h40 => ?_⟩
    obtain ⟨y1, y2, y3⟩ := b5 q hq h40
    obtain ⟨e1, e2, e3⟩ := hf.2.2.2.1 (CL x + q) (by have := hl k; omega)
    exact ⟨e1.trans y1, e2.trans y2, e3.trans y3⟩
theorem up_of_sd {f : Nat → Int32} {DP FC CA CF CL : Nat → Nat} {P nd cc k y : Nat} {v : Int32} (h : sdV f DP FC CA CL P nd cc k (-1) v) (h2 : ¬ f k = 0 → flR f DP FC CA CF P nd cc (k + 1) y) : upR f DP FC CL P nd cc k v := by
  rcases h with h | ⟨e, h⟩
  · exact Or.inl h
  · refine Or.inr ⟨e, ?_⟩
    rcases h with ⟨x, h, hv⟩ | ⟨h, _⟩
    · exact ⟨x, h.1, hv⟩
    · obtain ⟨x, z1, z2, z3, _⟩ := h2 e
      exact absurd ⟨z1, z2, z3⟩ (h x)
theorem cn_of_ln {f : Nat → Int32} {DP FC CA CF CL : Nat → Nat} {P nd cc k y : Nat} {v : Int32} (h : lnV f DP FC CA CL P nd cc k v) (h2 : flR f DP FC CA CF P nd cc k y) : ∃ z, cnR f DP FC P nd cc k z ∧ v = nI (CL z + tw f (k + 4)) := by
  rcases h with ⟨x, h, hv⟩ | ⟨h, _⟩
  · exact ⟨x, h.1, hv⟩
  · obtain ⟨x, z1, z2, z3, _⟩ := h2
    exact absurd ⟨z1, z2, z3⟩ (h x)
theorem chZ_new {f : Nat → Int32} {DP FC CA CF CL : Nat → Nat} {P nd cc NL NF NG ot y : Nat} {Z1 : Mda} {lh ta ts : Nat → Int32} (eL : CL cc = NL) (eo : Z1.ot = otX f (CA cc) ot) (h : tkV f DP FC CA CL P nd cc (CA cc) NL NF ot lh ta ts Z1.on Z1.tw Z1.ns Z1.nt Z1.oa Z1.oc Z1.ov Z1.la Z1.lc Z1.fh Z1.lh Z1.ta Z1.ts) (hr : rsR f DP FC CA CF CL P nd cc NG (CA cc) y) : chZ f DP FC CA CL P nd cc NF ot Z1 := by
  obtain ⟨v1, v2, v3, v4, v5, v6, v7, v8, v9⟩ := h
  refine ⟨v1, v2, fun k => ?_, v4, fun k => ?_, v6, fun k => ?_, fun k => ?_, v9⟩
  · obtain ⟨a, b, c9⟩ := v3 k
    refine ⟨a, b, ?_, fun i hi => ?_⟩
    · rw [eo]
      unfold otX
      rw [if_pos k]
      exact Nat.le_refl _
    · rcases c9 i hi with z | ⟨z, _⟩
      · exact z
      · obtain ⟨x, hx, _⟩ := ((rsI_1 k).mp hr).2 i hi
        exact absurd hx (z x)
  · obtain ⟨a, b, c9, d, e9⟩ := v5 k
    have hi := (rsI_2 k).mp hr
    rw [eL]
    exact ⟨a, b, up_of_sd d hi.2.1, up_of_sd e9 hi.2.2, fun q hq h4 => c9.2 q hq h4⟩
  · rcases k with k | k
    · exact cn_of_ln (v7 (Or.inl k)) ((rsI_3 k).mp hr)
    · exact cn_of_ln (v7 (Or.inr k)) ((rsI_4 k).mp hr).1
  · exact cn_of_ln (v8 k) ((rsI_4 k).mp hr).2.1
theorem mrR_new {f : Nat → Int32} {CA CF CL : Nat → Nat} {cc y : Nat} {so fo la lc ns so' fo' la' lc₇ ns' : Nat → Int32} (h : mrR f CA CF CL cc so fo la lc ns) (hso : so' = upd so cc (f (CA cc))) (hx : ∀ i, i < cc → fo' i = fo i ∧ la' i = la i ∧ lc₇ i = lc i ∧ ns' i = ns i) (hy : y < 40000) (hc : CL cc < 200000) (h1 : f (CA cc) = 0 ∨ f (CA cc) = 1 ∨ f (CA cc) = 2 → fo' cc = nI y) (h2 : f (CA cc) = 2 → la' cc = nI (CL cc) ∧ lc₇ cc = nI (tw f (lnAt f (CA cc)))) (h3 : f (CA cc) = 1 → ns' cc = f (nmAt f (CA cc)) ∧ ∃ m, m ≤ 64 ∧ f (nmAt f (CA cc)) = nI m) : mrR f CA (upN CF cc y) CL (cc + 1) so' fo' la' lc₇ ns' := by
  refine ⟨fun x z => ?_, fun x z k => ?_, fun x z k => ?_, fun x z k => ?_, fun x z => ?_⟩
  · rw [hso]
    by_cases e : x = cc
    · subst e; exact upd_eq _ _ _
    · rw [upd_ne _ e]; exact h.1 x (by omega)
  · by_cases e : x = cc
    · subst e; rw [upN_eq]; exact h1 k
    · rw [upN_ne _ e, (hx x (by omega)).1]; exact h.2.1 x (by omega) k
  · by_cases e : x = cc
    · subst e; exact h2 k
    · rw [(hx x (by omega)).2.1, (hx x (by omega)).2.2.1]; exact h.2.2.1 x (by omega) k
  · by_cases e : x = cc
    · subst e; exact h3 k
    · rw [(hx x (by omega)).2.2.2]; exact h.2.2.2.1 x (by omega) k
  · by_cases e : x = cc
    · subst e; rw [upN_eq]; exact ⟨hy, hc⟩
    · rw [upN_ne _ e]; exact h.2.2.2.2 x (by omega)
theorem lcs_upN {f : Nat → Int32} {CA CF LO : Nat → Nat} {c0 j y : Nat} : lcs f CA (upN CF (c0 + j) y) c0 j LO = lcs f CA CF c0 j LO := lcs_cg (fun i z => ⟨rfl, upN_ne _ (by omega), rfl, fun _ => rfl⟩)
theorem ffR_upN {f : Nat → Int32} {CA CF LO : Nat → Nat} {c0 j y : Nat} : ffR f CA (upN CF (c0 + j) y) c0 j LO ↔ ffR f CA CF c0 j LO := by
  unfold ffR
  refine exists_congr (fun i => ?_)
  by_cases hi : i < j
  · rw [upN_ne _ (show ¬ c0 + i = c0 + j by omega), show lcs f CA (upN CF (c0 + j) y) c0 (i + 1) LO = lcs f CA CF c0 (i + 1) LO from lcs_cg (fun q z => ⟨rfl, upN_ne _ (by omega), rfl, fun _ => rfl⟩)]
  · exact ⟨fun z => absurd z.1 hi, fun z => absurd z.1 hi⟩
theorem ffR_s {f : Nat → Int32} {CA CF LO : Nat → Nat} {c0 j : Nat} : ffR f CA CF c0 (j + 1) LO ↔ (ffR f CA CF c0 j LO ∨ (f (CA (c0 + j)) = 2 ∧ 400 < lcs f CA CF c0 j LO (CF (c0 + j)) + tw f (lnAt f (CA (c0 + j))))) := by
  constructor
  · rintro ⟨i, h1, h2, h3⟩
    by_cases e : i = j
    · subst e; rw [lcs_at h2] at h3; exact Or.inr ⟨h2, h3⟩
    · exact Or.inl ⟨i, by omega, h2, h3⟩
  · rintro (⟨i, h1, h2, h3⟩ | ⟨h2, h3⟩)
    · exact ⟨i, by omega, h2, h3⟩
    · exact ⟨j, by omega, h2, by rw [lcs_at h2]; exact h3⟩
/-- where the taking of a candidate stands behind j changes -/
def tkI (S : Stk) (bf : Nat → Int32) (n : Nat) (DP : Nat → Nat) (j : Nat) (CFu : Nat → Nat) (fu0 fu : Int32) (Z Zu : Mda) : Prop := ((∀ i, i < (S.FC S.P) → CFu i = S.CF i) ∧ rsA bf DP S.FC (caX S bf (S.FR S.P + n)) CFu (clX bf (caX S bf (S.FR S.P + n)) S.CL (S.FC S.P) (S.NLp S.P)) S.P (tw bf (S.FR S.P)) (S.FC S.P) (S.NFp S.P) j) ∧ mrR bf (caX S bf (S.FR S.P + n)) CFu (clX bf (caX S bf (S.FR S.P + n)) S.CL (S.FC S.P) (S.NLp S.P)) ((S.FC S.P) + j) Zu.so Zu.fo Zu.la Zu.lc Zu.ns ∧ (∀ i, i < j → Zu.of ((S.FC S.P) + i) = nI S.P ∧ ∃ o, chZ bf DP S.FC (caX S bf (S.FR S.P + n)) (clX bf (caX S bf (S.FR S.P + n)) S.CL (S.FC S.P) (S.NLp S.P)) S.P (tw bf (S.FR S.P)) ((S.FC S.P) + i) (NFs bf (caX S bf (S.FR S.P + n)) (S.FC S.P) (S.NFp S.P) i) o Zu) ∧ frM (S.FC S.P) (S.NLp S.P) (S.NFp S.P) Z Zu ∧ 4 * Zu.ot + (4 + 32 * (tw bf (S.FR S.P))) ≤ (sS bf (S.FR S.P + n) ((S.FR S.P + 2 + tw bf (S.FR S.P) * 32) + 2) j) ∧ (∀ y, y < 200 → Zu.fl y = nI ((lcs bf (caX S bf (S.FR S.P + n)) CFu (S.FC S.P) j (S.LOp S.P)) y)) ∧ flg fu (fu0 = 1 ∨ 200 < (NFs bf (caX S bf (S.FR S.P + n)) (S.FC S.P) (S.NFp S.P) j) ∨ 4000 < (NLs bf (caX S bf (S.FR S.P + n)) (S.FC S.P) (S.NLp S.P) j) ∨ ffR bf (caX S bf (S.FR S.P + n)) CFu (S.FC S.P) j (S.LOp S.P))
theorem chR.gt {f : Nat → Int32} {en a b : Nat} (h : chR f en a b) : a < b := by
  have hk := chR_k h
  rcases hk with k | k | k | k | k
  · have := chR_e0 h k; omega
  · have := chR_e1 h k; omega
  · have := chR_e2 h k
    have h2 := this.2.2 0 (Nat.zero_le _)
    have h3 := (this.2.2 _ (Nat.le_refl _))
    have h4 : ∀ j, lnAt f a + 2 ≤ lnP f (lnAt f a + 2) j := by
      intro j
      induction j with
      | zero => exact Nat.le_refl _
      | succ j ih => show _ ≤ lnP f (lnAt f a + 2) j + 2 + tw f (lnP f (lnAt f a + 2) j); omega
    have h5 := h4 (tw f (lnAt f a))
    have h6 : a + 5 < lnAt f a := by
      unfold lnAt plEnd
      split <;> split <;> omega
    omega
  · have := chR_e3 h k; omega
  · have := chR_e4 h k; omega
theorem tkI.step {S : Stk} {bf : Nat → Int32} {n : Nat} {DP : Nat → Nat} {j : Nat} {CFu : Nat → Nat} {fu0 fu fu' : Int32} {Z Zu Z1 : Mda} (I : sInv S) (hk : kept bf (S.FR S.P) (S.FR S.P + n)) (hD : ∀ i, i < (tw bf (S.FR S.P)) → DP i < S.P) (hj : j < (tw bf (S.FR S.P + 2 + tw bf (S.FR S.P) * 32))) (hb1 : (NFs bf (caX S bf (S.FR S.P + n)) (S.FC S.P) (S.NFp S.P) j) < 39000) (hb2 : (NLs bf (caX S bf (S.FR S.P + n)) (S.FC S.P) (S.NLp S.P) j) < 200000) (h : tkI S bf n DP j CFu fu0 fu Z Zu) (eso : Z1.so = upd Zu.so ((S.FC S.P) + j) (bf ((caX S bf (S.FR S.P + n)) ((S.FC S.P) + j)))) (eof : Z1.of = upd Zu.of ((S.FC S.P) + j) (nI S.P)) (eot : Z1.ot = otX bf ((caX S bf (S.FR S.P + n)) ((S.FC S.P) + j)) Zu.ot) (ht : tkR bf DP S.FC (caX S bf (S.FR S.P + n)) CFu (clX bf (caX S bf (S.FR S.P + n)) S.CL (S.FC S.P) (S.NLp S.P)) (lcs bf (caX S bf (S.FR S.P + n)) CFu (S.FC S.P) j (S.LOp S.P)) S.P (tw bf (S.FR S.P)) ((S.FC S.P) + j) ((caX S bf (S.FR S.P + n)) ((S.FC S.P) + j)) (NLs bf (caX S bf (S.FR S.P + n)) (S.FC S.P) (S.NLp S.P) j) (NFs bf (caX S bf (S.FR S.P + n)) (S.FC S.P) (S.NFp S.P) j) Zu.ot fu 1 fu' Zu.fo Zu.on Zu.tw Zu.ns Zu.nt Zu.oa Zu.oc Zu.ov Zu.la Zu.lc Zu.fl Zu.fh Zu.lh Zu.ta Zu.ts Z1.fo Z1.on Z1.tw Z1.ns Z1.nt Z1.oa Z1.oc Z1.ov Z1.la Z1.lc Z1.fl Z1.fh Z1.lh Z1.ta Z1.ts) : ∃ y, tkI S bf n DP (j + 1) (upN CFu ((S.FC S.P) + j) y) fu0 fu' Z Z1 := by
  obtain ⟨⟨i1, i2⟩, i3, i4, i5, i6, i7, i8⟩ := h
  obtain ⟨f1, hv, -, ha⟩ := ht
  rcases ha with ⟨-, y, r1, r2, r3, r4⟩ | ⟨z9, -⟩
  case inr => exact absurd z9 (by decide)
  have hL : ∀ i, i < S.P → S.FC (i + 1) ≤ (S.FC S.P) := fun i z => I.fcm (i := i + 1) (k := S.P) (by omega) (Nat.le_refl _)
  have hL2 : ∀ i, i < S.P → S.FC (i + 1) ≤ (S.FC S.P) + j := fun i z => Nat.le_trans (hL i z) (by omega)
  have hch := hk.2.2.2.2.1 j hj
  rw [← caX_ge] at hch
  have eCL : (clX bf (caX S bf (S.FR S.P + n)) S.CL (S.FC S.P) (S.NLp S.P)) ((S.FC S.P) + j) = (NLs bf (caX S bf (S.FR S.P + n)) (S.FC S.P) (S.NLp S.P) j) := clX_at _ _ _ _ _ _
  have hlt := rsA.lt hD hL (fun i z => by rw [i1 i z]; exact I.cfl z) i2
  have hylt : bf ((caX S bf (S.FR S.P + n)) ((S.FC S.P) + j)) = 0 ∨ y < (NFs bf (caX S bf (S.FR S.P + n)) (S.FC S.P) (S.NFp S.P) j) := by
    by_cases e : bf ((caX S bf (S.FR S.P + n)) ((S.FC S.P) + j)) = 0
    · exact Or.inl e
    · exact Or.inr (rsR.lt hD hL2 hlt (fun z => absurd z e) r1)
  have hy4 : y < 40000 := by
    rcases hylt with e | e
    · rw [(rsI_0 e).mp r1]; omega
    · omega
  have hNF1 : (NFs bf (caX S bf (S.FR S.P + n)) (S.FC S.P) (S.NFp S.P) j) ≤ (NFs bf (caX S bf (S.FR S.P + n)) (S.FC S.P) (S.NFp S.P) (j + 1)) := NFs_mono _ _ _ _ (Nat.le_succ _)
  have hNL1 : (NLs bf (caX S bf (S.FR S.P + n)) (S.FC S.P) (S.NLp S.P) j) ≤ (NLs bf (caX S bf (S.FR S.P + n)) (S.FC S.P) (S.NLp S.P) (j + 1)) := NLs_mono _ _ _ _ (Nat.le_succ _)
  have hNFz : (NFs bf (caX S bf (S.FR S.P + n)) (S.FC S.P) (S.NFp S.P) 0) ≤ (NFs bf (caX S bf (S.FR S.P + n)) (S.FC S.P) (S.NFp S.P) j) := NFs_mono _ _ _ _ (Nat.zero_le _)
  have hNLz : (NLs bf (caX S bf (S.FR S.P + n)) (S.FC S.P) (S.NLp S.P) 0) ≤ (NLs bf (caX S bf (S.FR S.P + n)) (S.FC S.P) (S.NLp S.P) j) := NLs_mono _ _ _ _ (Nat.zero_le _)
  have fr : frM ((S.FC S.P) + j) (NLs bf (caX S bf (S.FR S.P + n)) (S.FC S.P) (S.NLp S.P) j) (NFs bf (caX S bf (S.FR S.P + n)) (S.FC S.P) (S.NFp S.P) j) Zu Z1 := by
    refine ⟨fun i hi => ?_, f1.2.1, ?_, f1.2.2.1, f1.2.2.2⟩
    · obtain ⟨a1, a2, a3, a4, a5, a6, a7, a8, a9⟩ := f1.1 i (by omega)
      rw [eso, eof, upd_ne _ (by omega), upd_ne _ (by omega)]
      exact ⟨rfl, rfl, a1, a2, a3, a5, a4, a6, a7, a8, a9⟩
    · rw [eot]
      unfold otX
      split <;> omega
  refine ⟨y, ⟨⟨fun i z => by rw [upN_ne _ (by omega)]; exact i1 i z, rsA.step hD hL i2 r1⟩, ?_, ?_, ?_, ?_, ?_, ?_⟩⟩
  · refine mrR_new i3 eso (fun i z => ?_) hy4 (by rw [eCL]; exact hb2) r2 (fun k => ?_) (fun k => ?_)
    · obtain ⟨a1, a2, a3, a4, a5, a6, a7, a8, a9⟩ := f1.1 i (by omega)
      exact ⟨a1, a8, a9, a4⟩
    · have z := hv.2.2.2.2.1 k
      rw [eCL]
      exact ⟨z.1, z.2.1⟩
    · have z := (hv.1 (Or.inr k)).1
      rcases hch.2 with ⟨w, _⟩ | ⟨_, w⟩ | ⟨w, _⟩ | ⟨w, _⟩ | ⟨w, _⟩
      · exact absurd (k.symm.trans w) (by decide)
      · obtain ⟨_, _, _, m, w2, w3, _⟩ := w
        have en : nmAt bf ((caX S bf (S.FR S.P + n)) ((S.FC S.P) + j)) = (caX S bf (S.FR S.P + n)) ((S.FC S.P) + j) + 6 + 4 * b8 (bf ((caX S bf (S.FR S.P + n)) ((S.FC S.P) + j) + 5)) := if_neg (by rw [k]; decide)
        rw [en] at z ⊢
        refine ⟨?_, m, w2, w3⟩
        rw [z, w3, b8_nIs (by omega)]
      all_goals exact absurd (k.symm.trans w) (by decide)
  · intro i hi
    by_cases e : i = j
    · subst e
      exact ⟨by rw [eof, upd_eq], Zu.ot, chZ_new eCL eot hv r1⟩
    · obtain ⟨z1, o, z2⟩ := i4 i (by omega)
      refine ⟨by rw [eof, upd_ne _ (by omega)]; exact z1, o, z2.step fr (by omega) (fun k => ?_) (fun k => ?_)⟩
      · have q1 : (NLs bf (caX S bf (S.FR S.P + n)) (S.FC S.P) (S.NLp S.P) (i + 1)) ≤ (NLs bf (caX S bf (S.FR S.P + n)) (S.FC S.P) (S.NLp S.P) j) := NLs_mono _ _ _ _ (by omega)
        rw [NLs_eq k] at q1
        rw [show (clX bf (caX S bf (S.FR S.P + n)) S.CL (S.FC S.P) (S.NLp S.P)) ((S.FC S.P) + i) = (NLs bf (caX S bf (S.FR S.P + n)) (S.FC S.P) (S.NLp S.P) i) from clX_at _ _ _ _ _ _]
        exact q1
      · have q1 : (NFs bf (caX S bf (S.FR S.P + n)) (S.FC S.P) (S.NFp S.P) (i + 1)) ≤ (NFs bf (caX S bf (S.FR S.P + n)) (S.FC S.P) (S.NFp S.P) j) := NFs_mono _ _ _ _ (by omega)
        rw [NFs_eq k] at q1
        omega
  · exact i5.trans fr (by omega) hNLz hNFz
  · rw [eot]
    have hg := hch.2.gt
    rw [caX_ge] at hg
    unfold otX
    split
    · rename_i k
      have z := (chR_e1 hch.2 k).2
      rw [caX_ge] at z
      rw [caX_ge]
      omega
    · omega
  · intro i hi
    rw [r3 i hi]
    congr 1
    by_cases k : bf ((caX S bf (S.FR S.P + n)) ((S.FC S.P) + j)) = 2
    · rw [loX_y k, lcs_eq k, upN_eq, lcs_upN]
    · rw [loX_n k, lcs_ne k, lcs_upN]
  · refine r4.iff ?_
    rw [ffR_s, ffR_upN, upN_eq, lcs_upN]
    have e1 : fu = 1 ↔ (fu0 = 1 ∨ 200 < (NFs bf (caX S bf (S.FR S.P + n)) (S.FC S.P) (S.NFp S.P) j) ∨ 4000 < (NLs bf (caX S bf (S.FR S.P + n)) (S.FC S.P) (S.NLp S.P) j) ∨ ffR bf (caX S bf (S.FR S.P + n)) CFu (S.FC S.P) j (S.LOp S.P)) := by
      rcases i8 with ⟨a, b⟩ | ⟨a, b⟩
      · exact ⟨fun _ => b, fun _ => a⟩
      · exact ⟨fun z => by rw [a] at z; exact absurd z (by decide), fun z => absurd z b⟩
    rw [e1]
    have eF : ∀ z : bf ((caX S bf (S.FR S.P + n)) ((S.FC S.P) + j)) = 0, (NFs bf (caX S bf (S.FR S.P + n)) (S.FC S.P) (S.NFp S.P) (j + 1)) = (NFs bf (caX S bf (S.FR S.P + n)) (S.FC S.P) (S.NFp S.P) j) + 1 := fun z => NFs_eq z
    have eF2 : ¬ bf ((caX S bf (S.FR S.P + n)) ((S.FC S.P) + j)) = 0 → (NFs bf (caX S bf (S.FR S.P + n)) (S.FC S.P) (S.NFp S.P) (j + 1)) = (NFs bf (caX S bf (S.FR S.P + n)) (S.FC S.P) (S.NFp S.P) j) := fun z => NFs_ne z
    have eL : bf ((caX S bf (S.FR S.P + n)) ((S.FC S.P) + j)) = 2 → (NLs bf (caX S bf (S.FR S.P + n)) (S.FC S.P) (S.NLp S.P) (j + 1)) = (NLs bf (caX S bf (S.FR S.P + n)) (S.FC S.P) (S.NLp S.P) j) + tw bf (lnAt bf ((caX S bf (S.FR S.P + n)) ((S.FC S.P) + j))) := fun z => NLs_eq z
    have eL2 : ¬ bf ((caX S bf (S.FR S.P + n)) ((S.FC S.P) + j)) = 2 → (NLs bf (caX S bf (S.FR S.P + n)) (S.FC S.P) (S.NLp S.P) (j + 1)) = (NLs bf (caX S bf (S.FR S.P + n)) (S.FC S.P) (S.NLp S.P) j) := fun z => NLs_ne z
    constructor
    · rintro ((a | a | a | a) | ⟨a, b⟩ | ⟨a, b | b⟩)
      · exact Or.inl a
      · exact Or.inr (Or.inl (by omega))
      · exact Or.inr (Or.inr (Or.inl (by omega)))
      · exact Or.inr (Or.inr (Or.inr (Or.inl a)))
      · exact Or.inr (Or.inl (by rw [eF a]; omega))
      · exact Or.inr (Or.inr (Or.inr (Or.inr ⟨a, b.2⟩)))
      · exact Or.inr (Or.inr (Or.inl (by rw [eL a]; exact b)))
    · rintro (a | a | a | a | ⟨a, b⟩)
      · exact Or.inl (Or.inl a)
      · by_cases k : bf ((caX S bf (S.FR S.P + n)) ((S.FC S.P) + j)) = 0
        · rw [eF k] at a; exact Or.inr (Or.inl ⟨k, by omega⟩)
        · rw [eF2 k] at a; exact Or.inl (Or.inr (Or.inl a))
      · by_cases k : bf ((caX S bf (S.FR S.P + n)) ((S.FC S.P) + j)) = 2
        · rw [eL k] at a; exact Or.inr (Or.inr ⟨k, Or.inr a⟩)
        · rw [eL2 k] at a; exact Or.inl (Or.inr (Or.inr (Or.inl a)))
      · exact Or.inl (Or.inr (Or.inr (Or.inr a)))
      · by_cases y2 : y < 200
        · exact Or.inr (Or.inr ⟨a, Or.inl ⟨y2, b⟩⟩)
        · refine Or.inl (Or.inr (Or.inl ?_))
          rcases hylt with e | e
          · exact absurd (a.symm.trans e) (by decide)
          · omega
theorem tkI.no {S : Stk} {bf hs : Nat → Int32} {n j : Nat} {CFu : Nat → Nat} {fu0 fu : Int32} {Z Zu : Mda} (I : sInv S) (hnd : (tw bf (S.FR S.P)) ≤ 2048) (hD : ∀ i, i < (tw bf (S.FR S.P)) → dpN S bf hs i < S.P) (hj : j < (tw bf (S.FR S.P + 2 + tw bf (S.FR S.P) * 32))) (h : tkI S bf n (dpN S bf hs) j CFu fu0 fu Z Zu) (hno : ∀ y, ¬ rsR bf (dpN S bf hs) S.FC (caX S bf (S.FR S.P + n)) CFu (clX bf (caX S bf (S.FR S.P + n)) S.CL (S.FC S.P) (S.NLp S.P)) S.P (tw bf (S.FR S.P)) ((S.FC S.P) + j) (NFs bf (caX S bf (S.FR S.P + n)) (S.FC S.P) (S.NFp S.P) j) ((caX S bf (S.FR S.P + n)) ((S.FC S.P) + j)) y) : ¬ ∃ CF1, cfOk S bf hs (S.FR S.P + n) CF1 := rsA.no hnd hD (fun i z => I.fcm (i := i + 1) (k := S.P) (by omega) (Nat.le_refl _)) h.1.1 h.1.2 hj hno
theorem tkI.all {S : Stk} {bf hs : Nat → Int32} {n j : Nat} {CFu : Nat → Nat} {fu0 fu : Int32} {Z Zu : Mda} (hj : j = (tw bf (S.FR S.P + 2 + tw bf (S.FR S.P) * 32))) (h : tkI S bf n (dpN S bf hs) j CFu fu0 fu Z Zu) : cfOk S bf hs (S.FR S.P + n) CFu := ⟨h.1.1, hj ▸ h.1.2⟩
theorem chZ.agr {f g : Nat → Int32} {DP DP₇ FC FC₇ CA CA₇ CF CF₇ CL CL₇ : Nat → Nat} {n P nd x NF o b : Nat} {Z : Mda} (A : Agr f g DP DP₇ FC FC₇ CA CA₇ CF CF₇ CL CL₇ n P nd x) (eA : CA x = CA₇ x) (eC : CL x = CL₇ x) (hc : chR f n (CA x) b) (h : chZ f DP FC CA CL P nd x NF o Z) : chZ g DP₇ FC₇ CA₇ CL₇ P nd x NF o Z := by
  have hw := hc.W
  have ea : f (CA x) = g (CA x) := A.hf _ (by have := hw.1; omega)
  have e5 : f (CA x + 5) = g (CA x + 5) := A.hf _ hw.1
  have en : nmAt f (CA x) = nmAt g (CA x) := nmAt_cg A.hf hw.1
  obtain ⟨h1, h2, h3, h4, h5, h6, h7, h8, h9⟩ := h
  unfold chZ
  rw [← eA, ← eC, ← ea]
  refine ⟨fun k => ?_, h2, fun k => ?_, h4, fun k => ?_, h6, fun k => ?_, fun k => ?_, h9⟩
  · have hl : nmAt f (CA x) < n := by
      unfold nmAt
      split
      · exact hw.1
      · rename_i z
        exact hw.2.1 (k.resolve_left z)
    rw [← en, ← A.hf _ hl]
    exact h1 k
  · have hl := hw.2.1 k
    obtain ⟨b1, b2, b3, b4⟩ := h3 k
    rw [← e5]
    refine ⟨b1, b2, b3, fun i hi => ?_⟩
    obtain ⟨z, y1, y2⟩ := b4 i hi
    exact ⟨z, (A.cn (by omega) y1).1, y2⟩
  · obtain ⟨w1, w2, w3, w4⟩ := hw.2.2.1 k
    have hP := insR.P (chR_2 k hc)
    have e1 : lnAt f (CA x) = lnAt g (CA x) := lnAt_cg A.hf hw.1 w2
    have e2 := plEnd_cg A.hf hw.1
    have e3 : tw f (lnAt f (CA x)) = tw g (lnAt g (CA x)) := by rw [← e1]; exact tw_cg A.hf w4
    obtain ⟨b1, b2, b3, b4, b5⟩ := h5 k
    rw [← e3, ← e2, ← e1]
    refine ⟨b1, b2, A.up hw.1 (fun z => by have := w1 z; omega) b3, A.up w2 (fun z => by have := w3 z; omega) b4, fun q hq h40 => ?_⟩
    have e4 : lnP f (lnAt f (CA x) + 2) q = lnP g (lnAt f (CA x) + 2) q := lnP_cg A.hf (fun r z => by have := (hP r (by omega)).1; omega)
    have e6 := (hP q hq).1
    rw [← e4, ← tw_cg A.hf (k := lnP f (lnAt f (CA x) + 2) q) (by omega)]
    exact b5 q hq h40
  · obtain ⟨z, y1, y2⟩ := h7 k
    have hl : CA x + 7 ≤ n := k.elim hw.2.2.2.1 (fun k => by have := hw.2.2.2.2 k; omega)
    have y3 := A.cn (by omega) y1
    refine ⟨z, y3.1, ?_⟩
    rw [← A.hL z y3.2, ← tw_cg A.hf (k := CA x + 1 + 4) (by omega)]
    exact y2
  · obtain ⟨z, y1, y2⟩ := h8 k
    have hl := hw.2.2.2.2 k
    have y3 := A.cn (by omega) y1
    refine ⟨z, y3.1, ?_⟩
    rw [← A.hL z y3.2, ← tw_cg A.hf (k := CA x + 7 + 4) (by omega)]
    exact y2
/-- the reference's rows hold the stock -/
def mrp (S : Stk) (Z : Mda) (G : Gr) : Prop := (∀ i, i < S.FR S.P → Z.by₇ i = S.f i) ∧ (∀ p, p < S.P → Z.at₇ p = nI (S.FR p) ∧ Z.le p = nI (S.FR (p + 1) - S.FR p)) ∧ (∀ p, p ≤ S.P → Z.da p = nI (S.FD p) ∧ Z.fc p = nI (S.FC p)) ∧ (∀ i, i < S.FD S.P → Z.ds i = nI (S.DP i)) ∧ (G.n = S.P ∧ (∀ p, p < S.P → Z.gh p = some (G.ah p)) ∧ ∀ p k, p < S.P → k < 32 → G.H p k = S.hf (p * 32 + k)) ∧ (∀ p j, p < S.P → j < S.nT p → Z.of (S.FC p + j) = nI p ∧ ∃ o, chZ S.f (S.dp p) S.FC S.CA S.CL p (S.nd p) (S.FC p + j) (NFs S.f S.CA (S.FC p) (S.NFp p) j) o Z) ∧ mrR S.f S.CA S.CF S.CL (S.FC S.P) Z.so Z.fo Z.la Z.lc Z.ns ∧ (∀ y, y < 200 → Z.fl y = nI (S.LOp S.P y)) ∧ 4 * Z.ot ≤ S.FR S.P
theorem mrR.cf {f : Nat → Int32} {CA CF CF₇ CL : Nat → Nat} {cc : Nat} {so fo la lc ns : Nat → Int32} (h : mrR f CA CF CL cc so fo la lc ns) (e : ∀ i, i < cc → CF i = CF₇ i) : mrR f CA CF₇ CL cc so fo la lc ns := ⟨h.1, fun x z k => by rw [← e x z]; exact h.2.1 x z k, h.2.2.1, h.2.2.2.1, fun x z => by rw [← e x z]; exact h.2.2.2.2 x z⟩
/-- the rows behind store -/
def Mda.kp (Z Zu : Mda) (gi ds1 : Nat → Int32) (P us n D9 nd cc T q : Nat) : Mda := Mda.mk (va_cpy gi Z.by₇ 0 us n) (upd Z.at₇ P (nI us)) (upd Z.le P (nI n)) (upd Z.da (P + 1) (nI (D9 + nd))) (upd (upd Z.fc P (nI (cc))) (P + 1) (nI (cc + T))) ds1 Zu.so Zu.of Zu.fo Zu.on Zu.tw Zu.nt Zu.ns Zu.oa Zu.oc Zu.la Zu.lc Zu.ov Zu.lh Zu.ta Zu.ts Zu.fh Zu.fl (va_up Z.gh P (some q)) Zu.ot
theorem chZ.kp {f : Nat → Int32} {DP FC CA CL : Nat → Nat} {P nd x NF o : Nat} {Z Zu : Mda} {gi ds1 : Nat → Int32} {P1 us n D9 nd1 cc T q : Nat} (h : chZ f DP FC CA CL P nd x NF o Zu) : chZ f DP FC CA CL P nd x NF o (Mda.kp Z Zu gi ds1 P1 us n D9 nd1 cc T q) := h
theorem outb_cg {f g : Nat → Int32} {k : Nat} (h : ∀ j, j < 8 → f j = g j) (hk : k < 32) : sh_outb f k = sh_outb g k := by
  unfold sh_outb
  rw [h (k / 4) (by omega)]
theorem mrp.ext {S S₇ : Stk} {bf : Nat → Int32} {n : Nat} {DPn CF1 BH1 CFu : Nat → Nat} {nd T : Nat} {hf1 : Nat → Int32} {lo1 lb1 : Nat → Int64} {la ll lc lp lu ld ad gi ds1 row : Nat → Int32} {Z Zu : Mda} {G : Gr} {q : Nat} {fu0 fu : Int32} (I : sInv S) (C : cand S bf (S.FR S.P + n) DPn CF1 nd T) (hS : S₇ = S.ext bf (S.FR S.P + n) DPn CF1 BH1 nd T hf1 lo1 lb1 la ll lc lp lu ld ad) (I1 : sInv S₇) (h : mrp S Z G) (hin : ∀ i, i < n → gi i = bf (S.FR S.P + i)) (ht : tkI S bf n DPn T CFu fu0 fu Z Zu) (hds : (∀ i, i < S.FD S.P → ds1 i = Z.ds i) ∧ ∀ i, i < nd → ds1 (S.FD S.P + i) = nI (DPn i)) (hrow : ∀ k, k < 32 → row k = sh_outb (dg bf (S.FR S.P) n) k) : mrp S₇ (Mda.kp Z Zu gi ds1 S.P (S.FR S.P) n (S.FD S.P) nd (S.FC S.P) T q) (G.pH q row) := by
  have hnd0 := C.hnd
  have hT0 := C.hT
  subst hnd0
  subst hT0
  obtain ⟨h1, h2, h3, h4, ⟨h5, h6, h7⟩, h8, h9, h10, h11⟩ := h
  obtain ⟨⟨t1, t2⟩, t3, t4, t5, t6, t7, t8⟩ := ht
  have hndl : (tw bf (S.FR S.P)) ≤ 2048 := Nat.le_trans C.ndl (by have := I.hP; omega)
  have hD : ∀ i, i < (tw bf (S.FR S.P)) → DPn i < S.P := fun i z => (C.dep i z).1
  have hL : ∀ i, i < S.P → S.FC (i + 1) ≤ S.FC S.P := fun i z => I.fcm (i := i + 1) (k := S.P) (by omega) (Nat.le_refl _)
  have ecf := rsA.same hndl hD hL (fun i z => (t1 i z).trans (C.cf i z).symm) t2 C.rs
  have ePP : S₇.P = S.P + 1 := by rw [hS]; rfl
  have eP : S₇.f = bf := by rw [hS]; rfl
  have eF : ∀ i, i ≤ S.P → S₇.FR i = S.FR i := fun i z => by rw [hS]; exact upN_ne _ (by omega)
  have eF1 : S₇.FR (S.P + 1) = S.FR S.P + n := by rw [hS]; exact upN_eq _ _ _
  have eD : ∀ i, i ≤ S.P → S₇.FD i = S.FD i := fun i z => by rw [hS]; exact upN_ne _ (by omega)
  have eD1 : S₇.FD (S.P + 1) = S.FD S.P + (tw bf (S.FR S.P)) := by rw [hS]; exact upN_eq _ _ _
  have eC : ∀ i, i ≤ S.P → S₇.FC i = S.FC i := fun i z => by rw [hS]; exact upN_ne _ (by omega)
  have eC1 : S₇.FC (S.P + 1) = S.FC S.P + (tw bf (S.FR S.P + 2 + tw bf (S.FR S.P) * 32)) := by rw [hS]; exact upN_eq _ _ _
  have eN : ∀ i, i ≤ S.P → S₇.NFp i = S.NFp i := fun i z => by rw [hS]; exact upN_ne _ (by omega)
  have eO1 : S₇.LOp (S.P + 1) = lcs bf (caX S bf (S.FR S.P + n)) CF1 (S.FC S.P) (tw bf (S.FR S.P + 2 + tw bf (S.FR S.P) * 32)) (S.LOp S.P) := by rw [hS]; exact if_pos rfl
  have eA : S₇.CA = (caX S bf (S.FR S.P + n)) := by rw [hS]; rfl
  have eCF : S₇.CF = CF1 := by rw [hS]; rfl
  have eCL : S₇.CL = (clX bf (caX S bf (S.FR S.P + n)) S.CL (S.FC S.P) (S.NLp S.P)) := by rw [hS]; rfl
  have eDP : ∀ i, S₇.DP i = if i < S.FD S.P then S.DP i else DPn (i - S.FD S.P) := fun i => by rw [hS]; rfl
  refine ⟨fun i hi => ?_, fun p hp => ?_, fun p hp => ?_, fun i hi => ?_, ⟨?_, fun p hp => ?_, fun p k hp hk => ?_⟩, fun p j hp hj => ?_, ?_, fun y hy => ?_, ?_⟩
  · rw [ePP, eF1] at hi
    rw [eP]
    show va_cpy gi Z.by₇ 0 (S.FR S.P) n i = bf i
    unfold va_cpy
    by_cases e : S.FR S.P ≤ i
    · rw [if_pos ⟨e, by omega⟩, hin _ (by omega)]
      congr 1
      omega
    · rw [if_neg (by omega), h1 i (by omega)]
      exact C.agr i (by omega)
  · rw [ePP] at hp
    show upd Z.at₇ S.P (nI (S.FR S.P)) p = nI (S₇.FR p) ∧ upd Z.le S.P (nI n) p = nI (S₇.FR (p + 1) - S₇.FR p)
    by_cases e : p = S.P
    · subst e
      rw [upd_eq, upd_eq, eF _ (Nat.le_refl _), eF1, Nat.add_sub_cancel_left]
      exact ⟨rfl, rfl⟩
    · rw [upd_ne _ e, upd_ne _ e, eF p (by omega), eF (p + 1) (by omega)]
      exact h2 p (by omega)
  · rw [ePP] at hp
    show upd Z.da (S.P + 1) (nI (S.FD S.P + (tw bf (S.FR S.P)))) p = nI (S₇.FD p) ∧ upd (upd Z.fc S.P (nI (S.FC S.P))) (S.P + 1) (nI (S.FC S.P + (tw bf (S.FR S.P + 2 + tw bf (S.FR S.P) * 32)))) p = nI (S₇.FC p)
    by_cases e : p = S.P + 1
    · subst e
      rw [upd_eq, upd_eq, eD1, eC1]
      exact ⟨rfl, rfl⟩
    · rw [upd_ne _ e, upd_ne _ e, eD p (by omega), eC p (by omega)]
      by_cases e2 : p = S.P
      · subst e2
        rw [upd_eq]
        exact ⟨(h3 _ (Nat.le_refl _)).1, rfl⟩
      · rw [upd_ne _ e2]
        exact h3 p (by omega)
  · rw [ePP, eD1] at hi
    show ds1 i = nI (S₇.DP i)
    rw [eDP]
    by_cases e : i < S.FD S.P
    · rw [if_pos e, hds.1 i e]; exact h4 i e
    · rw [if_neg e]
      have := hds.2 (i - S.FD S.P) (by omega)
      rw [show S.FD S.P + (i - S.FD S.P) = i by omega] at this
      exact this
  · show G.n + 1 = S₇.P
    rw [ePP, h5]
  · rw [ePP] at hp
    show va_up Z.gh S.P (some q) p = some (va_up G.ah G.n q p)
    rw [h5]
    by_cases e : p = S.P
    · subst e; rw [va_up_self, va_up_self]
    · rw [va_up_ne _ _ e, va_up_ne _ _ e]; exact h6 p (by omega)
  · rw [ePP] at hp
    show va_up G.H G.n row p k = S₇.hf (p * 32 + k)
    rw [h5]
    have hh := (I1.pi p (by rw [ePP]; exact hp)).hs k hk
    by_cases e : p = S.P
    · subst e
      rw [va_up_self, hrow k hk, hh, eP, eF _ (Nat.le_refl _), eF1, Nat.add_sub_cancel_left]
    · rw [va_up_ne _ _ e, h7 p k (by omega) hk, hh, (I.pi p (by omega)).hs k hk, eP, eF p (by omega), eF (p + 1) (by omega)]
      have m1 := I.frm (i := p + 1) (k := S.P) (by omega) (Nat.le_refl _)
      exact outb_cg (dg_congr (fun i z => C.agr _ (by omega))) hk
  · rw [ePP] at hp
    by_cases e : p = S.P
    · subst e
      have en1 : S₇.nd S.P = (tw bf (S.FR S.P)) := by
        unfold Stk.nd
        rw [eF _ (Nat.le_refl _), eP]
      have est : S₇.st S.P = (S.FR S.P + 2 + tw bf (S.FR S.P) * 32) := by
        unfold Stk.st
        rw [en1, eF _ (Nat.le_refl _)]
      have eT : S₇.nT S.P = (tw bf (S.FR S.P + 2 + tw bf (S.FR S.P) * 32)) := by
        unfold Stk.nT
        rw [est, eP]
      have edp : S₇.dp S.P = DPn := by
        funext k
        unfold Stk.dp
        rw [eD _ (Nat.le_refl _), eDP, if_neg (by omega), Nat.add_sub_cancel_left]
      rw [eT] at hj
      obtain ⟨z1, o, z2⟩ := t4 j hj
      rw [eC _ (Nat.le_refl _), eP, edp, eA, eCL, en1, eN _ (Nat.le_refl _)]
      have AG : Agr bf bf DPn DPn S.FC S₇.FC (caX S bf (S.FR S.P + n)) (caX S bf (S.FR S.P + n)) CF1 CF1 (clX bf (caX S bf (S.FR S.P + n)) S.CL (S.FC S.P) (S.NLp S.P)) (clX bf (caX S bf (S.FR S.P + n)) S.CL (S.FC S.P) (S.NLp S.P)) (S.FR S.P + n) S.P (tw bf (S.FR S.P)) (S.FC S.P + j) := ⟨(fun _ _ => rfl), (fun _ _ => rfl), hD, (fun i z => (eC i z).symm), (fun _ _ => rfl), (fun _ _ => rfl), (fun _ _ => rfl), (fun i z => C.chw I (by omega)), (fun i z => Nat.le_trans (hL i z) (by omega))⟩
      exact ⟨z1, o, (z2.agr AG rfl rfl (C.chg hj)).kp⟩
    · have hp2 : p < S.P := by omega
      have hi := I.pi p hp2
      have m1 := I.frm (i := p + 1) (k := S.P) (by omega) (Nat.le_refl _)
      have m2 := I.fcm (i := p + 1) (k := S.P) (by omega) (Nat.le_refl _)
      have m3 := I.fdm (i := p + 1) (k := S.P) (by omega) (Nat.le_refl _)
      have l1 := I.le1 hp2
      have l2 := hi.fc
      have l3 := hi.fd
      have hg : ∀ i, i < S.FR (p + 1) → S.f i = S₇.f i := fun i z => by rw [eP]; exact C.agr i (by omega)
      have en1 : S₇.nd p = S.nd p := by
        unfold Stk.nd
        rw [eF p (by omega)]
        exact (tw_cg hg (by omega)).symm
      have est : S₇.st p = S.st p := by
        unfold Stk.st
        rw [en1, eF p (by omega)]
      have eT : S₇.nT p = S.nT p := by
        unfold Stk.nT
        rw [est]
        exact (tw_cg hg (by unfold Stk.st; omega)).symm
      have edp : ∀ k, k < S.nd p → S.dp p k = S₇.dp p k := fun k z => by
        unfold Stk.dp
        rw [eD p (by omega), eDP]
        exact (if_pos (by omega : S.FD p + k < S.FD S.P)).symm
      have eA1 : ∀ x, x < S.FC S.P → S.CA x = S₇.CA x := fun x z => by rw [eA]; exact (caX_lt z).symm
      have eCL1 : ∀ x, x < S.FC S.P → S.CL x = S₇.CL x := fun x z => by rw [eCL]; exact (clX_lt z).symm
      have AG : ∀ j, j ≤ S.nT p → Agr S.f S₇.f (S.dp p) (S₇.dp p) S.FC S₇.FC S.CA S₇.CA S.CF S₇.CF S.CL S₇.CL (S.FR (p + 1)) p (S.nd p) (S.FC p + j) := fun j hj => ⟨hg, edp, (fun i z => (hi.dep i z).1), (fun i z => (eC i (by omega)).symm), (fun i z => eA1 i (by omega)), (fun i z => by rw [eCF]; exact (C.cf i (by omega)).symm), (fun i z => eCL1 i (by omega)), (fun i z => I.chw (k := p + 1) (by omega) (by omega)), (fun i z => Nat.le_trans (I.fcm (i := i + 1) (k := p) (by omega) (by omega)) (by omega))⟩
      rw [eT] at hj
      have CH : ∀ i, i < S.nT p → S.CA (S.FC p + i) = S₇.CA (S.FC p + i) ∧ S.f (S.CA (S.FC p + i)) = S₇.f (S.CA (S.FC p + i)) := fun i z => ⟨eA1 _ (by omega), hg _ (by have := (I.chg hp2 z).W.1; omega)⟩
      have eNF : NFs S.f S.CA (S.FC p) (S.NFp p) j = NFs S₇.f S₇.CA (S.FC p) (S₇.NFp p) j := by
        rw [eN p (by omega)]
        exact NFs_cg (fun i z => CH i (by omega))
      obtain ⟨z1, o, z2⟩ := h8 p j hp2 hj
      rw [eC p (by omega), en1, ← eNF]
      have hx : S.FC p + j < S.FC S.P := by omega
      refine ⟨((t5.1 _ hx).2.1).trans z1, o, ((z2.step t5 hx (fun k => ?_) (fun k => ?_)).agr (AG j (by omega)) (eA1 _ hx) (eCL1 _ hx) (I.chg hp2 hj)).kp⟩
      · rw [hi.cl j hj]
        have q1 : NLs S.f S.CA (S.FC p) (S.NLp p) (j + 1) ≤ NLs S.f S.CA (S.FC p) (S.NLp p) (S.nT p) := NLs_mono _ _ _ _ (by omega)
        rw [NLs_eq k, ← hi.nl] at q1
        exact Nat.le_trans q1 (I.nlm (i := p + 1) (k := S.P) (by omega) (Nat.le_refl _))
      · have q1 : NFs S.f S.CA (S.FC p) (S.NFp p) (j + 1) ≤ NFs S.f S.CA (S.FC p) (S.NFp p) (S.nT p) := NFs_mono _ _ _ _ (by omega)
        rw [NFs_eq k, ← hi.nf] at q1
        have q2 := I.nfm (i := p + 1) (k := S.P) (by omega) (Nat.le_refl _)
        omega
  · rw [ePP, eC1, eP, eA, eCF, eCL]
    exact t3.cf ecf
  · show Zu.fl y = nI (S₇.LOp S₇.P y)
    rw [ePP, eO1, t7 y hy]
    congr 1
    rw [show lcs bf (caX S bf (S.FR S.P + n)) CFu (S.FC S.P) (tw bf (S.FR S.P + 2 + tw bf (S.FR S.P) * 32)) (S.LOp S.P) = lcs bf (caX S bf (S.FR S.P + n)) CF1 (S.FC S.P) (tw bf (S.FR S.P + 2 + tw bf (S.FR S.P) * 32)) (S.LOp S.P) from lcs_cg (fun i z => ⟨rfl, ecf _ (by omega), rfl, fun _ => rfl⟩)]
  · show 4 * Zu.ot ≤ S₇.FR S₇.P
    rw [ePP, eF1]
    have := C.kept.2.2.2.2.2
    rw [this] at t6
    omega
end
