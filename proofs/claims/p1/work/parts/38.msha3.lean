/-! 38.msha3.lean.txt -/
theorem gw_1816 : (Jvm.Cond.constantLong "PatchStoreModel$Digest" (56 : Nat) (8 : Int64)) ∈ xg_1 := xg_s8 136 rfl rfl
theorem gw_1817 : (Jvm.Cond.methodLink "PatchStoreModel$Digest" (58 : Nat) ({ cls := "PatchStoreModel$Digest", name := "one", desc := "(I)V" } : Jvm.MethodName)) ∈ xg_1 := xg_s8 137 rfl rfl
theorem gw_1818 : (Jvm.Cond.instanceMethod ({ cls := "PatchStoreModel$Digest", name := "one", desc := "(I)V" } : Jvm.MethodName)) ∈ xg_1 := xg_s8 138 rfl rfl
theorem gw_1819 : (Jvm.Cond.sameMethod "PatchStoreModel$Digest" "PatchStoreModel$Digest" "one" "(I)V") ∈ xg_1 := xg_s8 139 rfl rfl
theorem gw_1821 : (Jvm.Cond.code ({ cls := "PatchStoreModel$Digest", name := "one", desc := "(I)V" } : Jvm.MethodName) prog_15_method_9_code (2 : Nat) (Option.none : Option Jvm.ClassFile.FieldType)) ∈ xg_1 := xg_s8 141 rfl rfl
theorem gw_1822 : (Jvm.Cond.methodLink "PatchStoreModel$Digest" (62 : Nat) ({ cls := "PatchStoreModel$Digest", name := "put", desc := "([BI)V" } : Jvm.MethodName)) ∈ xg_1 := xg_s8 142 rfl rfl
theorem gn_1823 : (Jvm.Cond.declares ({ cls := "PatchStoreModel$Digest", name := "put", desc := "([BI)V" } : Jvm.MethodName)) ∈ xg_2 := xg_u8 143 rfl rfl
theorem gw_1824 : (Jvm.Cond.sameMethod "PatchStoreModel$Digest" "PatchStoreModel$Digest" "put" "([BI)V") ∈ xg_1 := xg_s8 144 rfl rfl
theorem gw_1825 : (Jvm.Cond.selects "PatchStoreModel$Sha256" ({ cls := "PatchStoreModel$Digest", name := "put", desc := "([BI)V" } : Jvm.MethodName) ({ cls := "PatchStoreModel$Sha256", name := "put", desc := "([BI)V" } : Jvm.MethodName)) ∈ xg_1 := xg_s8 145 rfl rfl
theorem gw_1826 : (Jvm.Cond.instanceMethod ({ cls := "PatchStoreModel$Sha256", name := "put", desc := "([BI)V" } : Jvm.MethodName)) ∈ xg_1 := xg_s8 146 rfl rfl
theorem gw_1827 : (Jvm.Cond.code ({ cls := "PatchStoreModel$Sha256", name := "put", desc := "([BI)V" } : Jvm.MethodName) prog_17_method_6_code (4 : Nat) (Option.none : Option Jvm.ClassFile.FieldType)) ∈ xg_1 := xg_s8 147 rfl rfl
def y_MD_finish : MethodName := ⟨"PatchStoreModel$Digest", "finish", "([BI)V"⟩
abbrev c_MD_finish : Cond := (Jvm.Cond.code ({ cls := "PatchStoreModel$Digest", name := "finish", desc := "([BI)V" } : Jvm.MethodName) prog_15_method_11_code (6 : Nat) (Option.none : Option Jvm.ClassFile.FieldType))
abbrev ws_MD_finish : List Cond := c_MD_finish :: xg_1
theorem d_MD_finish_0 : decode prog_15_method_11_code 0 = .ok (.aload_n 0, 1) := by decide +kernel
theorem d_MD_finish_1 : decode prog_15_method_11_code 1 = .ok (.getfield 13, 3) := by decide +kernel
theorem d_MD_finish_4 : decode prog_15_method_11_code 4 = .ok (.ldc2_w 56, 3) := by decide +kernel
theorem d_MD_finish_7 : decode prog_15_method_11_code 7 = .ok (.lmul, 1) := by decide +kernel
theorem d_MD_finish_8 : decode prog_15_method_11_code 8 = .ok (.lstore_n 3, 1) := by decide +kernel
theorem d_MD_finish_9 : decode prog_15_method_11_code 9 = .ok (.aload_n 0, 1) := by decide +kernel
theorem d_MD_finish_10 : decode prog_15_method_11_code 10 = .ok (.sipush 128, 3) := by decide +kernel
theorem d_MD_finish_13 : decode prog_15_method_11_code 13 = .ok (.invokevirtual 58, 3) := by decide +kernel
theorem d_MD_finish_16 : decode prog_15_method_11_code 16 = .ok (.aload_n 0, 1) := by decide +kernel
theorem d_MD_finish_17 : decode prog_15_method_11_code 17 = .ok (.getfield 7, 3) := by decide +kernel
theorem d_MD_finish_20 : decode prog_15_method_11_code 20 = .ok (.aload_n 0, 1) := by decide +kernel
theorem d_MD_finish_21 : decode prog_15_method_11_code 21 = .ok (.getfield 23, 3) := by decide +kernel
theorem d_MD_finish_24 : decode prog_15_method_11_code 24 = .ok (.aload_n 0, 1) := by decide +kernel
theorem d_MD_finish_25 : decode prog_15_method_11_code 25 = .ok (.getfield 23, 3) := by decide +kernel
theorem d_MD_finish_28 : decode prog_15_method_11_code 28 = .ok (.bipush 8, 2) := by decide +kernel
theorem d_MD_finish_30 : decode prog_15_method_11_code 30 = .ok (.idiv, 1) := by decide +kernel
theorem d_MD_finish_31 : decode prog_15_method_11_code 31 = .ok (.isub, 1) := by decide +kernel
theorem d_MD_finish_32 : decode prog_15_method_11_code 32 = .ok (.if_icmp .eq 11, 3) := by decide +kernel
theorem d_MD_finish_35 : decode prog_15_method_11_code 35 = .ok (.aload_n 0, 1) := by decide +kernel
theorem d_MD_finish_36 : decode prog_15_method_11_code 36 = .ok (.iconst 0, 1) := by decide +kernel
theorem d_MD_finish_37 : decode prog_15_method_11_code 37 = .ok (.invokevirtual 58, 3) := by decide +kernel
theorem d_MD_finish_40 : decode prog_15_method_11_code 40 = .ok (.goto (-24), 3) := by decide +kernel
theorem d_MD_finish_43 : decode prog_15_method_11_code 43 = .ok (.aload_n 0, 1) := by decide +kernel
theorem d_MD_finish_44 : decode prog_15_method_11_code 44 = .ok (.getfield 7, 3) := by decide +kernel
theorem d_MD_finish_47 : decode prog_15_method_11_code 47 = .ok (.aload_n 0, 1) := by decide +kernel
theorem d_MD_finish_48 : decode prog_15_method_11_code 48 = .ok (.getfield 23, 3) := by decide +kernel
theorem d_MD_finish_51 : decode prog_15_method_11_code 51 = .ok (.bipush 8, 2) := by decide +kernel
theorem d_MD_finish_53 : decode prog_15_method_11_code 53 = .ok (.isub, 1) := by decide +kernel
theorem d_MD_finish_54 : decode prog_15_method_11_code 54 = .ok (.if_icmp .eq 11, 3) := by decide +kernel
theorem d_MD_finish_57 : decode prog_15_method_11_code 57 = .ok (.aload_n 0, 1) := by decide +kernel
theorem d_MD_finish_58 : decode prog_15_method_11_code 58 = .ok (.iconst 0, 1) := by decide +kernel
theorem d_MD_finish_59 : decode prog_15_method_11_code 59 = .ok (.invokevirtual 58, 3) := by decide +kernel
theorem d_MD_finish_62 : decode prog_15_method_11_code 62 = .ok (.goto (-19), 3) := by decide +kernel
theorem d_MD_finish_65 : decode prog_15_method_11_code 65 = .ok (.bipush 56, 2) := by decide +kernel
theorem d_MD_finish_67 : decode prog_15_method_11_code 67 = .ok (.istore 5, 2) := by decide +kernel
theorem d_MD_finish_69 : decode prog_15_method_11_code 69 = .ok (.iload 5, 2) := by decide +kernel
theorem d_MD_finish_71 : decode prog_15_method_11_code 71 = .ok (.ifCond .lt 18, 3) := by decide +kernel
theorem d_MD_finish_74 : decode prog_15_method_11_code 74 = .ok (.aload_n 0, 1) := by decide +kernel
theorem d_MD_finish_75 : decode prog_15_method_11_code 75 = .ok (.lload_n 3, 1) := by decide +kernel
theorem d_MD_finish_76 : decode prog_15_method_11_code 76 = .ok (.iload 5, 2) := by decide +kernel
theorem d_MD_finish_78 : decode prog_15_method_11_code 78 = .ok (.lushr, 1) := by decide +kernel
theorem d_MD_finish_79 : decode prog_15_method_11_code 79 = .ok (.l2i, 1) := by decide +kernel
theorem d_MD_finish_80 : decode prog_15_method_11_code 80 = .ok (.invokevirtual 58, 3) := by decide +kernel
theorem d_MD_finish_83 : decode prog_15_method_11_code 83 = .ok (.iinc 5 (-8), 3) := by decide +kernel
theorem d_MD_finish_86 : decode prog_15_method_11_code 86 = .ok (.goto (-17), 3) := by decide +kernel
theorem d_MD_finish_89 : decode prog_15_method_11_code 89 = .ok (.aload_n 0, 1) := by decide +kernel
theorem d_MD_finish_90 : decode prog_15_method_11_code 90 = .ok (.aload_n 1, 1) := by decide +kernel
theorem d_MD_finish_91 : decode prog_15_method_11_code 91 = .ok (.iload_n 2, 1) := by decide +kernel
theorem d_MD_finish_92 : decode prog_15_method_11_code 92 = .ok (.invokevirtual 62, 3) := by decide +kernel
theorem d_MD_finish_95 : decode prog_15_method_11_code 95 = .ok (.return_, 1) := by decide +kernel
theorem u8_bw (x : BitVec 64) (n : Nat) (hn : n ≤ 56) : (x >>> n).signExtend 8 = (x.sshiftRight n).signExtend 8 := by
  rw [BitVec.signExtend_eq_setWidth_of_le _ (by decide), BitVec.signExtend_eq_setWidth_of_le _ (by decide)]
  ext i hi
  simp only [BitVec.getElem_setWidth, BitVec.getLsbD_sshiftRight, BitVec.getLsbD_ushiftRight]
  rw [if_pos (by omega)]
  simp
  omega
def md_lenb (tl : Int64) (k : Nat) : Int32 := (((tl * 8).toUInt64 >>> ((nI (56 - 8 * k)).toInt64.toUInt64 &&& Int64.toUInt64 63)).toInt64.toInt32).toInt8.toInt32
theorem md_lenb_eq (tk : Int32) : ∀ k, k < 8 → md_lenb tk.toInt64 k = sh_lenb tk k := by
  intro k hk
  unfold md_lenb sh_lenb
  generalize tk.toInt64 * 8 = x
  congr 1
  apply Int8.toBitVec_inj.mp
  rcases (show k = 0 ∨ k = 1 ∨ k = 2 ∨ k = 3 ∨ k = 4 ∨ k = 5 ∨ k = 6 ∨ k = 7 by omega) with rfl | rfl | rfl | rfl | rfl | rfl | rfl | rfl
  · rw [show (nI (56 - 8 * 0)).toInt64.toUInt64 &&& Int64.toUInt64 63 = 56 from by decide, show (nI (56 - 8 * 0)).toInt64 &&& 63 = 56 from by decide]; simpa using u8_bw x.toBitVec 56 (by decide)
  · rw [show (nI (56 - 8 * 1)).toInt64.toUInt64 &&& Int64.toUInt64 63 = 48 from by decide, show (nI (56 - 8 * 1)).toInt64 &&& 63 = 48 from by decide]; simpa using u8_bw x.toBitVec 48 (by decide)
  · rw [show (nI (56 - 8 * 2)).toInt64.toUInt64 &&& Int64.toUInt64 63 = 40 from by decide, show (nI (56 - 8 * 2)).toInt64 &&& 63 = 40 from by decide]; simpa using u8_bw x.toBitVec 40 (by decide)
  · rw [show (nI (56 - 8 * 3)).toInt64.toUInt64 &&& Int64.toUInt64 63 = 32 from by decide, show (nI (56 - 8 * 3)).toInt64 &&& 63 = 32 from by decide]; simpa using u8_bw x.toBitVec 32 (by decide)
  · rw [show (nI (56 - 8 * 4)).toInt64.toUInt64 &&& Int64.toUInt64 63 = 24 from by decide, show (nI (56 - 8 * 4)).toInt64 &&& 63 = 24 from by decide]; simpa using u8_bw x.toBitVec 24 (by decide)
  · rw [show (nI (56 - 8 * 5)).toInt64.toUInt64 &&& Int64.toUInt64 63 = 16 from by decide, show (nI (56 - 8 * 5)).toInt64 &&& 63 = 16 from by decide]; simpa using u8_bw x.toBitVec 16 (by decide)
  · rw [show (nI (56 - 8 * 6)).toInt64.toUInt64 &&& Int64.toUInt64 63 = 8 from by decide, show (nI (56 - 8 * 6)).toInt64 &&& 63 = 8 from by decide]; simpa using u8_bw x.toBitVec 8 (by decide)
  · rw [show (nI (56 - 8 * 7)).toInt64.toUInt64 &&& Int64.toUInt64 63 = 0 from by decide, show (nI (56 - 8 * 7)).toInt64 &&& 63 = 0 from by decide]; simpa using u8_bw x.toBitVec 0 (by decide)
theorem sh_one_of {f b : Nat → Int32} {w : Nat → Int32} {F : Nat} {bk x : Int32} {u : (Nat → Int32) × (Nat → Int32) × (Nat → Int32) × Nat × Int32} (h : (F + 1 < 64 ∧ u = (f, w, upd b F x, F + 1, bk)) ∨ (F + 1 = 64 ∧ ∃ w1, u = (sh_comp f (upd b F x), w1, upd b F x, 0, bk + 1))) : sh_put1 x (f, b, F) = (u.1, u.2.2.1, u.2.2.2.1) ∧ u.2.2.2.1 < 64 := by
  rcases h with ⟨h1, rfl⟩ | ⟨h1, w1, rfl⟩
  · exact ⟨by unfold sh_put1; rw [if_pos h1], h1⟩
  · exact ⟨by unfold sh_put1; rw [if_neg (show ¬ F + 1 < 64 by omega)], (by show (0 : Nat) < 64; decide)⟩
set_option maxHeartbeats 4000000 in
set_option maxRecDepth 100000 in
/-- finish of the model's Digest -/
theorem m_MD_finish (l : Launch) (dC : Nat → ClassId) (dI : Nat → Nat → Nat) (cI cB cL cZ cR : ClassId) (h sm wd bl tg : Nat) (f0 w0 b0 : Nat → Int32) (Fz : Nat) (tk bk0 : Int32) (N a : Nat) (g : Nat → Int32) (sz : Nat) (hFz : Fz < 64) (hN9 : N < 2 ^ 31) (haM : a + 32 ≤ N) : Met l y_MD_finish ws_MD_finish ({ frames := 5, cells := 0, slots := 0, locals := 300 }) (xw_Px dC dI [(cI, .int), (cB, .byte), (cL, .long), (cZ, .boolean), (cR, .object "PatchStore$Repository")] [.ref h, .ref tg, .int (nI a)] [(h, .inr (13, [.ref sm, .ref wd, .int 32, .int 64, .ref bl, .int (nI Fz), .long ((tk : Int32).toInt64), .int bk0])), (sm, .inl (cI, 8, .inl f0)), (wd, .inl (cI, 64, .inl w0)), (bl, .inl (cB, 64, .inl b0)), (tg, .inl (cB, N, .inl g))] sz) (va_Qv (fun u : (Nat → Int32) × (Nat → Int32) × (Nat → Int32) × Nat × Int64 × Int32 × (Nat → Int32) => sh_fin tk (f0, b0, Fz) = (u.1, u.2.2.1, u.2.2.2.1) ∧ u.2.2.2.1 < 64 ∧ u.2.2.2.2.2.2 = sh_out u.1 a 32 g) (fun u t => xw_B dC dI [(cI, .int), (cB, .byte), (cL, .long), (cZ, .boolean), (cR, .object "PatchStore$Repository")] (va_A [(h, .inr (13, [.ref sm, .ref wd, .int 32, .int 64, .ref bl, .int (nI Fz), .long ((tk : Int32).toInt64), .int bk0])), (sm, .inl (cI, 8, .inl f0)), (wd, .inl (cI, 64, .inl w0)), (bl, .inl (cB, 64, .inl b0)), (tg, .inl (cB, N, .inl g))] sz) [(h, .inr (13, [.ref sm, .ref wd, .int 32, .int 64, .ref bl, .int (nI u.2.2.2.1), .long u.2.2.2.2.1, .int u.2.2.2.2.2.1])), (sm, .inl (cI, 8, .inl u.1)), (wd, .inl (cI, 64, .inl u.2.1)), (bl, .inl (cB, 64, .inl u.2.2.1)), (tg, .inl (cB, N, .inl u.2.2.2.2.2.2))] t) (va_A [(h, .inr (13, [.ref sm, .ref wd, .int 32, .int 64, .ref bl, .int (nI Fz), .long ((tk : Int32).toInt64), .int bk0])), (sm, .inl (cI, 8, .inl f0)), (wd, .inl (cI, 64, .inl w0)), (bl, .inl (cB, 64, .inl b0)), (tg, .inl (cB, N, .inl g))] sz)) 0 0 (va_A [(h, .inr (13, [.ref sm, .ref wd, .int 32, .int 64, .ref bl, .int (nI Fz), .long ((tk : Int32).toInt64), .int bk0])), (sm, .inl (cI, 8, .inl f0)), (wd, .inl (cI, 64, .inl w0)), (bl, .inl (cB, 64, .inl b0)), (tg, .inl (cB, N, .inl g))] sz) := by
  refine Met.ofW (cc := prog_15_method_11_code) (maxL := 6) (ret := none) (by decide) rfl ?_
  intro p e s m args below meth c s₁ B hml hv
  obtain ⟨rfl, hsz, hP, hK, hD0, hN, hTh⟩ := hv
  have hx := B.exec
  have hb := B.bytes
  have hr := B.returns
  have hts0 := atoms_spec (ws := ws_MD_finish) B.pre
  have hts : ∀ w ∈ xg_1, w.before _ s = true := fun w h => hts0 w (List.mem_cons_of_mem _ h)
  have hown : s.vm.findClass "PatchStoreModel$Digest" = some m.cls := findClass_of_methodNamed B.named
  have hlocks := B.notSynchronized
  subst hsz
  have hD := hD0.self (sz := s.heap.size)
  generalize hAe : va_A [(h, .inr (13, [.ref sm, .ref wd, .int 32, .int 64, .ref bl, .int (nI Fz), .long ((tk : Int32).toInt64), .int bk0])), (sm, .inl (cI, 8, .inl f0)), (wd, .inl (cI, 64, .inl w0)), (bl, .inl (cB, 64, .inl b0)), (tg, .inl (cB, N, .inl g))] s.heap.size = A at hD hTh ⊢
  have hA : ∀ q : Nat, s.heap.size ≤ q → A q := fun q h => by rw [← hAe]; exact Or.inr h
  have hS : va_S A s.heap s.heap [] := va_S.rf
  have hl := lv_entry ([.ref h, .ref tg, .int (nI a)]) (n := 6) (Nat.le_of_ble_eq_true rfl)
  rw [lg_entry_eq]
  generalize (lg_sl ([.ref h, .ref tg, .int (nI a)]) ++ List.replicate (6 - (lg_sl ([.ref h, .ref tg, .int (nI a)])).length) Slot.unset).toArray = ls at hl ⊢
  have hl : lv_has ls 6 [(0, .ref h), (1, .ref tg), (2, .int (nI a))] := hl
  generalize hQe : MQ _ _ _ _ _ _ _ = Q
  refine lv_aload_n hx hb d_MD_finish_0 rfl (lv_at hl 0 rfl) ?_
  refine va_get (D := (dC, dI)) (ci := 13) (v := .long ((tk : Int32).toInt64)) (C := R_MS) (T := F_MS) (N := 8) hx hb hts i_MS hown hK hP 0 rfl rfl 6 (by decide) (hts _ gw_1396) (fun _ h9 => h9) rfl d_MD_finish_1 ?_
  refine lv_ldc2 (own := "PatchStoreModel$Digest") hx hb hown (hts _ gw_1816) d_MD_finish_4 ?_
  refine lv_lmul hx hb d_MD_finish_7 ?_
  refine lv_lstore_n (lv' := [(3, .long (((tk : Int32).toInt64) * 8)), (0, .ref h), (1, .ref tg), (2, .int (nI a))]) hx hb d_MD_finish_8 rfl hl (by decide) rfl (fun ls hl => ?_)
  refine lv_aload_n hx hb d_MD_finish_9 rfl (lv_at hl 1 rfl) ?_
  refine lv_sipush (v := 128) hx hb d_MD_finish_10 (by decide) ?_
  have hPc := hP.sub (ws' := [(h, .inr (13, [.ref sm, .ref wd, .int 32, .int 64, .ref bl, .int (nI Fz), .long ((tk : Int32).toInt64), .int bk0])), (sm, .inl (cI, 8, .inl f0)), (wd, .inl (cI, 64, .inl w0)), (bl, .inl (cB, 64, .inl b0))]) [0, 1, 2, 3] rfl
  have hDc := hD.sub (ws' := [(h, .inr (13, [.ref sm, .ref wd, .int 32, .int 64, .ref bl, .int (nI Fz), .long ((tk : Int32).toInt64), .int bk0])), (sm, .inl (cI, 8, .inl f0)), (wd, .inl (cI, 64, .inl w0)), (bl, .inl (cB, 64, .inl b0))]) [0, 1, 2, 3] (by decide) rfl
  have hFc := va_free (wc := [(h, .inr (13, [.ref sm, .ref wd, .int 32, .int 64, .ref bl, .int (nI Fz), .long ((tk : Int32).toInt64), .int bk0])), (sm, .inl (cI, 8, .inl f0)), (wd, .inl (cI, 64, .inl w0)), (bl, .inl (cB, 64, .inl b0))]) hD hS hA [0, 1, 2, 3] rfl
  refine va_callv (va_runU (As := [.int 128]) (rest := []) ⟨hx, hb, hml, hown, hts⟩ (m_MD_one l dC dI cI cB cL cZ cR h sm wd bl f0 w0 b0 Fz bk0 ((tk : Int32).toInt64) 128 s.heap.size (by omega)) (va_cwU 1 hts (xg_U gw_1817 gw_1819 gw_1820 gw_1818 gw_14 gw_1821) rfl rfl rfl rfl (by decide +kernel) ⟨Nat.le_of_ble_eq_true rfl, Nat.le_of_ble_eq_true rfl⟩) ⟨xw_blindx, va_recv hK hPc (ci := 13) (q0 := 0) rfl rfl, fun U hU hW => ⟨rfl, by rw [hU], by rw [hU]; exact hPc, va_K.moved hW.alike hK, hDc.weaken (fun _ _ _ _ => trivial), xg_N.warm hW hN, by rw [hU]; exact ((hTh.kept (fun a h1 h2 => hS.2.1 a h1 h2)).narrow hFc).moved hW.alike⟩⟩ rfl rfl hl.1 rfl (lv_room (Nat.le_of_ble_eq_true rfl)) d_MD_finish_13 ⟨Nat.le_of_ble_eq_true rfl, Nat.le_of_ble_eq_true rfl⟩) hS (fun q _ h => hFc q h) hFc (fun u t H1 locs ht hvm hw hB hz1 hk1 hS => ?_)
  obtain ⟨f11, w11, b11, F11, k11⟩ := u
  obtain ⟨hs11, hF11⟩ := sh_one_of hw
  dsimp only at hs11 hF11
  obtain ⟨hP1, hK1, hD1⟩ := hB
  rw [ht] at hP1
  obtain ⟨hP, hD⟩ := va_join (wr := [(tg, .inl (cB, N, .inl g))]) (w1 := [(h, .inr (13, [.ref sm, .ref wd, .int 32, .int 64, .ref bl, .int (nI F11), .long (((tk : Int32).toInt64) + 1), .int k11])), (sm, .inl (cI, 8, .inl f11)), (wd, .inl (cI, 64, .inl w11)), (bl, .inl (cB, 64, .inl b11))]) hP hD [0, 1, 2, 3] [4] rfl rfl (by decide) (by decide) hk1 hFc hP1 hD1
  generalize H1 = H at hP hS ⊢
  have hP : va_P (dC, dI) classes [(tg, .inl (cB, N, .inl g)), (h, .inr (13, [.ref sm, .ref wd, .int 32, .int 64, .ref bl, .int (nI F11), .long (((tk : Int32).toInt64) + 1), .int k11])), (sm, .inl (cI, 8, .inl f11)), (wd, .inl (cI, 64, .inl w11)), (bl, .inl (cB, 64, .inl b11))] H := hP
  have hD : va_D A [(tg, .inl (cB, N, .inl g)), (h, .inr (13, [.ref sm, .ref wd, .int 32, .int 64, .ref bl, .int (nI F11), .long (((tk : Int32).toInt64) + 1), .int k11])), (sm, .inl (cI, 8, .inl f11)), (wd, .inl (cI, 64, .inl w11)), (bl, .inl (cB, 64, .inl b11))] := hD
  have loop_16 : ∀ (n : Nat) (k : Nat) (f : Nat → Int32) (w : Nat → Int32) (b : Nat → Int32) (F : Nat) (tl : Int64) (bk : Int32) (H : Heap) (locs : List Loc) (ls : Array Slot), sh_z F11 - k < n → (k ≤ sh_z F11) → (F < 64) → (sh_zeros k (f11, b11, F11) = (f, b, F)) → va_P (dC, dI) classes [(h, .inr (13, [.ref sm, .ref wd, .int 32, .int 64, .ref bl, .int (nI F), .long tl, .int bk])), (sm, .inl (cI, 8, .inl f)), (wd, .inl (cI, 64, .inl w)), (bl, .inl (cB, 64, .inl b)), (tg, .inl (cB, N, .inl g))] H → va_D A [(h, .inr (13, [.ref sm, .ref wd, .int 32, .int 64, .ref bl, .int (nI F), .long tl, .int bk])), (sm, .inl (cI, 8, .inl f)), (wd, .inl (cI, 64, .inl w)), (bl, .inl (cB, 64, .inl b)), (tg, .inl (cB, N, .inl g))] → va_S A s.heap H locs → lv_has ls 6 [(0, .ref h), (1, .ref tg), (2, .int (nI a)), (3, .long ((tk : Int32).toInt64 * 8))] → W p l e (headSpec ws_MD_finish ({ frames := 5, cells := 0, slots := 0, locals := 300 })).room s m ([.ref h, .ref tg, .int (nI a)] : List Value).toArray below meth c H locs 0 0 Q (F0 m 16 ls []) := by
    intro n
    induction n with
    | zero => intro k f w b F tl bk H locs ls hm; exact absurd hm (Nat.not_lt_zero _)
    | succ n ih_16 =>
      intro k f w b F tl bk H locs ls hm hk hF hs hP hD hS hl
      refine lv_aload_n hx hb d_MD_finish_16 rfl (lv_at hl 0 rfl) ?_
      refine va_get (D := (dC, dI)) (ci := 13) (v := .int (nI F)) (C := R_MS) (T := F_MS) (N := 8) hx hb hts i_MS hown hK hP 0 rfl rfl 5 (by decide) (hts _ gw_1395) (fun _ h9 => h9) rfl d_MD_finish_17 ?_
      refine lv_aload_n hx hb d_MD_finish_20 rfl (lv_at hl 0 rfl) ?_
      refine va_get (D := (dC, dI)) (ci := 13) (v := .int 64) (C := R_MS) (T := F_MS) (N := 8) hx hb hts i_MS hown hK hP 0 rfl rfl 3 (by decide) (hts _ gw_1393) (fun _ h9 => h9) rfl d_MD_finish_21 ?_
      refine lv_aload_n hx hb d_MD_finish_24 rfl (lv_at hl 0 rfl) ?_
      refine va_get (D := (dC, dI)) (ci := 13) (v := .int 64) (C := R_MS) (T := F_MS) (N := 8) hx hb hts i_MS hown hK hP 0 rfl rfl 3 (by decide) (hts _ gw_1393) (fun _ h9 => h9) rfl d_MD_finish_25 ?_
      refine lv_bipush (v := 8) hx hb d_MD_finish_28 (by decide) ?_
      refine lv_idiv hx hb d_MD_finish_30 (by decide) ?_
      refine lv_isub hx hb d_MD_finish_31 ?_
      refine lv_topi (fun x_1 ex_1 => ?_)
      obtain rfl : x_1 = 56 := by rw [ex_1]; first | done | (decide)
      refine lv_icmp_eq (tgt := 43) hx hb d_MD_finish_32 (by decide) (fun c_32 => ?_) (fun c_32 => ?_)
      · have hF6 : F = 56 := (nI_eq (a := F) (b := 56) (by omega) (by omega)).mp c_32
        have hkz : k = sh_z F11 := sh_z_at hF11 hk (by have h9 := sh_zeros_F (f11, b11, F11) hF11 k; rw [hs] at h9; dsimp only at h9; omega)
        subst hkz
        refine lv_aload_n hx hb d_MD_finish_43 rfl (lv_at hl 0 rfl) ?_
        refine va_get (D := (dC, dI)) (ci := 13) (v := .int (nI F)) (C := R_MS) (T := F_MS) (N := 8) hx hb hts i_MS hown hK hP 0 rfl rfl 5 (by decide) (hts _ gw_1395) (fun _ h9 => h9) rfl d_MD_finish_44 ?_
        refine lv_aload_n hx hb d_MD_finish_47 rfl (lv_at hl 0 rfl) ?_
        refine va_get (D := (dC, dI)) (ci := 13) (v := .int 64) (C := R_MS) (T := F_MS) (N := 8) hx hb hts i_MS hown hK hP 0 rfl rfl 3 (by decide) (hts _ gw_1393) (fun _ h9 => h9) rfl d_MD_finish_48 ?_
        refine lv_bipush (v := 8) hx hb d_MD_finish_51 (by decide) ?_
        refine lv_isub hx hb d_MD_finish_53 ?_
        refine lv_topi (fun x_2 ex_2 => ?_)
        obtain rfl : x_2 = 56 := by rw [ex_2]; first | done | (decide)
        refine lv_icmp_eq (tgt := 65) hx hb d_MD_finish_54 (by decide) (fun _ => ?_) (fun c_54 => absurd (show nI F = 56 from by rw [hF6]; rfl) c_54)
        refine lv_bipush (v := 56) hx hb d_MD_finish_65 (by decide) ?_
        refine lv_istore (lv' := [(5, .int 56), (0, .ref h), (1, .ref tg), (2, .int (nI a)), (3, .long ((tk : Int32).toInt64 * 8))]) hx hb d_MD_finish_67 hl (by decide) rfl (fun ls hl => ?_)
        have loop_69 : ∀ (n : Nat) (mm : Nat) (x : Int32) (f : Nat → Int32) (w : Nat → Int32) (b : Nat → Int32) (F : Nat) (tl : Int64) (bk : Int32) (H : Heap) (locs : List Loc) (ls : Array Slot), 8 - mm < n → (sh_shx mm x) → (F < 64) → (sh_lens tk mm (sh_zeros (sh_z F11) (f11, b11, F11)) = (f, b, F)) → va_P (dC, dI) classes [(h, .inr (13, [.ref sm, .ref wd, .int 32, .int 64, .ref bl, .int (nI F), .long tl, .int bk])), (sm, .inl (cI, 8, .inl f)), (wd, .inl (cI, 64, .inl w)), (bl, .inl (cB, 64, .inl b)), (tg, .inl (cB, N, .inl g))] H → va_D A [(h, .inr (13, [.ref sm, .ref wd, .int 32, .int 64, .ref bl, .int (nI F), .long tl, .int bk])), (sm, .inl (cI, 8, .inl f)), (wd, .inl (cI, 64, .inl w)), (bl, .inl (cB, 64, .inl b)), (tg, .inl (cB, N, .inl g))] → va_S A s.heap H locs → lv_has ls 6 [(0, .ref h), (1, .ref tg), (2, .int (nI a)), (3, .long ((tk : Int32).toInt64 * 8)), (5, .int x)] → W p l e (headSpec ws_MD_finish ({ frames := 5, cells := 0, slots := 0, locals := 300 })).room s m ([.ref h, .ref tg, .int (nI a)] : List Value).toArray below meth c H locs 0 0 Q (F0 m 69 ls []) := by
          intro n
          induction n with
          | zero => intro mm x f w b F tl bk H locs ls hm; exact absurd hm (Nat.not_lt_zero _)
          | succ n ih_69 =>
            intro mm x f w b F tl bk H locs ls hm hm hF hs hP hD hS hl
            refine lv_iload hx hb d_MD_finish_69 (lv_at hl 4 rfl) ?_
            refine lv_if_lt (tgt := 89) hx hb d_MD_finish_71 (by decide) (fun c_71 => ?_) (fun c_71 => ?_)
            · have hm8 : mm = 8 := sh_shx_e hm c_71
              subst hm8
              refine lv_aload_n hx hb d_MD_finish_89 rfl (lv_at hl 0 rfl) ?_
              refine lv_aload_n hx hb d_MD_finish_90 rfl (lv_at hl 1 rfl) ?_
              refine lv_iload_n hx hb d_MD_finish_91 rfl (lv_at hl 2 rfl) ?_
              have hPc := hP.sub (ws' := [(h, .inr (13, [.ref sm, .ref wd, .int 32, .int 64, .ref bl, .int (nI F), .long tl, .int bk])), (sm, .inl (cI, 8, .inl f)), (tg, .inl (cB, N, .inl g))]) [0, 1, 4] rfl
              have hDc := hD.sub (ws' := [(h, .inr (13, [.ref sm, .ref wd, .int 32, .int 64, .ref bl, .int (nI F), .long tl, .int bk])), (sm, .inl (cI, 8, .inl f)), (tg, .inl (cB, N, .inl g))]) [0, 1, 4] (by decide) rfl
              have hFc := va_free (wc := [(h, .inr (13, [.ref sm, .ref wd, .int 32, .int 64, .ref bl, .int (nI F), .long tl, .int bk])), (sm, .inl (cI, 8, .inl f)), (tg, .inl (cB, N, .inl g))]) hD hS hA [0, 1, 4] rfl
              refine va_callv (va_runU (As := [.ref tg, .int (nI a)]) (rest := []) ⟨hx, hb, hml, hown, hts⟩ (m_MS_put l dC dI cI cB cL cZ cR h sm tg (.ref wd) (.int 32) (.int 64) (.ref bl) (.int (nI F)) (.long tl) (.int bk) N a f g H.size hN9 haM) (va_cwA 2 hts (xg_U gw_1822 gw_1824 gw_1825 gw_1826 gw_15 gw_1827) rfl rfl rfl (hN _ gn_1823) (by decide +kernel) ⟨Nat.le_of_ble_eq_true rfl, Nat.le_of_ble_eq_true rfl⟩) ⟨xw_blind, va_recv hK hPc (ci := 13) (q0 := 0) rfl rfl, fun U hU hW => ⟨rfl, by rw [hU], by rw [hU]; exact hPc, va_K.moved hW.alike hK, hDc.weaken (fun _ _ _ _ => trivial)⟩⟩ rfl rfl hl.1 rfl (lv_room (Nat.le_of_ble_eq_true rfl)) d_MD_finish_92 ⟨Nat.le_of_ble_eq_true rfl, Nat.le_of_ble_eq_true rfl⟩) hS (fun q _ h => hFc q h) hFc (fun u t H1 locs ht hvm hw hB hz1 hk1 hS => ?_)
              obtain ⟨hP1, hK1, hD1⟩ := hB
              rw [ht] at hP1
              obtain ⟨hP, hD⟩ := va_join (wr := [(wd, .inl (cI, 64, .inl w)), (bl, .inl (cB, 64, .inl b))]) (w1 := [(h, .inr (13, [.ref sm, .ref wd, .int 32, .int 64, .ref bl, .int (nI F), .long tl, .int bk])), (sm, .inl (cI, 8, .inl f)), (tg, .inl (cB, N, .inl (sh_out f a 32 g)))]) hP hD [0, 1, 4] [2, 3] rfl rfl (by decide) (by decide) hk1 hFc hP1 hD1
              generalize H1 = H at hP hS ⊢
              have hP : va_P (dC, dI) classes [(wd, .inl (cI, 64, .inl w)), (bl, .inl (cB, 64, .inl b)), (h, .inr (13, [.ref sm, .ref wd, .int 32, .int 64, .ref bl, .int (nI F), .long tl, .int bk])), (sm, .inl (cI, 8, .inl f)), (tg, .inl (cB, N, .inl (sh_out f a 32 g)))] H := hP
              have hD : va_D A [(wd, .inl (cI, 64, .inl w)), (bl, .inl (cB, 64, .inl b)), (h, .inr (13, [.ref sm, .ref wd, .int 32, .int 64, .ref bl, .int (nI F), .long tl, .int bk])), (sm, .inl (cI, 8, .inl f)), (tg, .inl (cB, N, .inl (sh_out f a 32 g)))] := hD
              have hP := hP.sub (ws' := [(h, .inr (13, [.ref sm, .ref wd, .int 32, .int 64, .ref bl, .int (nI F), .long tl, .int bk])), (sm, .inl (cI, 8, .inl f)), (wd, .inl (cI, 64, .inl w)), (bl, .inl (cB, 64, .inl b)), (tg, .inl (cB, N, .inl (sh_out f a 32 g)))]) [2, 3, 0, 1, 4] rfl
              have hD := hD.sub (ws' := [(h, .inr (13, [.ref sm, .ref wd, .int 32, .int 64, .ref bl, .int (nI F), .long tl, .int bk])), (sm, .inl (cI, 8, .inl f)), (wd, .inl (cI, 64, .inl w)), (bl, .inl (cB, 64, .inl b)), (tg, .inl (cB, N, .inl (sh_out f a 32 g)))]) [2, 3, 0, 1, 4] (by decide) rfl
              rw [← hQe]
              exact W.vret hx hb hr (fun t ht hW => ⟨⟨(f, w, b, F, tl, bk, sh_out f a 32 g), rfl, ⟨by unfold sh_fin; rw [show (-128 : Int32) = ((128 : Int32) : Int32).toInt8.toInt32 from by decide, hs11]; exact hs, hF, rfl⟩, by rw [ht]; exact hP, va_K.moved hW.alike hK, hD⟩, hS.F ht⟩) hS.2.2 d_MD_finish_95
            · have hx0 : ¬ x < 0 := c_71
              have hx1 := sh_shx_n hm c_71
              have hm7 : mm ≤ 7 := hx1.1
              refine lv_aload_n hx hb d_MD_finish_74 rfl (lv_at hl 0 rfl) ?_
              refine lv_lload_n hx hb d_MD_finish_75 rfl (lv_at hl 3 rfl) ?_
              refine lv_iload hx hb d_MD_finish_76 (lv_at hl 4 rfl) ?_
              refine lv_lushr hx hb d_MD_finish_78 rfl ?_
              refine lv_l2i hx hb d_MD_finish_79 rfl ?_
              have hPc := hP.sub (ws' := [(h, .inr (13, [.ref sm, .ref wd, .int 32, .int 64, .ref bl, .int (nI F), .long tl, .int bk])), (sm, .inl (cI, 8, .inl f)), (wd, .inl (cI, 64, .inl w)), (bl, .inl (cB, 64, .inl b))]) [0, 1, 2, 3] rfl
              have hDc := hD.sub (ws' := [(h, .inr (13, [.ref sm, .ref wd, .int 32, .int 64, .ref bl, .int (nI F), .long tl, .int bk])), (sm, .inl (cI, 8, .inl f)), (wd, .inl (cI, 64, .inl w)), (bl, .inl (cB, 64, .inl b))]) [0, 1, 2, 3] (by decide) rfl
              have hFc := va_free (wc := [(h, .inr (13, [.ref sm, .ref wd, .int 32, .int 64, .ref bl, .int (nI F), .long tl, .int bk])), (sm, .inl (cI, 8, .inl f)), (wd, .inl (cI, 64, .inl w)), (bl, .inl (cB, 64, .inl b))]) hD hS hA [0, 1, 2, 3] rfl
              refine va_callv (va_runU (As := [.int (((((tk : Int32).toInt64 * 8).toUInt64 >>> ((x : Int32).toInt64.toUInt64 &&& Int64.toUInt64 63)).toInt64 : Int64).toInt32)]) (rest := []) ⟨hx, hb, hml, hown, hts⟩ (m_MD_one l dC dI cI cB cL cZ cR h sm wd bl f w b F bk tl (((((tk : Int32).toInt64 * 8).toUInt64 >>> ((x : Int32).toInt64.toUInt64 &&& Int64.toUInt64 63)).toInt64 : Int64).toInt32) H.size (by omega)) (va_cwU 1 hts (xg_U gw_1817 gw_1819 gw_1820 gw_1818 gw_14 gw_1821) rfl rfl rfl rfl (by decide +kernel) ⟨Nat.le_of_ble_eq_true rfl, Nat.le_of_ble_eq_true rfl⟩) ⟨xw_blindx, va_recv hK hPc (ci := 13) (q0 := 0) rfl rfl, fun U hU hW => ⟨rfl, by rw [hU], by rw [hU]; exact hPc, va_K.moved hW.alike hK, hDc.weaken (fun _ _ _ _ => trivial), xg_N.warm hW hN, by rw [hU]; exact ((hTh.kept (fun a h1 h2 => hS.2.1 a h1 h2)).narrow hFc).moved hW.alike⟩⟩ rfl rfl hl.1 rfl (lv_room (Nat.le_of_ble_eq_true rfl)) d_MD_finish_80 ⟨Nat.le_of_ble_eq_true rfl, Nat.le_of_ble_eq_true rfl⟩) hS (fun q _ h => hFc q h) hFc (fun u t H1 locs ht hvm hw hB hz1 hk1 hS => ?_)
              obtain ⟨f12, w12, b12, F12, k12⟩ := u
              obtain ⟨hs12, hF12⟩ := sh_one_of hw
              dsimp only at hs12 hF12
              obtain ⟨hP1, hK1, hD1⟩ := hB
              rw [ht] at hP1
              obtain ⟨hP, hD⟩ := va_join (wr := [(tg, .inl (cB, N, .inl g))]) (w1 := [(h, .inr (13, [.ref sm, .ref wd, .int 32, .int 64, .ref bl, .int (nI F12), .long (tl + 1), .int k12])), (sm, .inl (cI, 8, .inl f12)), (wd, .inl (cI, 64, .inl w12)), (bl, .inl (cB, 64, .inl b12))]) hP hD [0, 1, 2, 3] [4] rfl rfl (by decide) (by decide) hk1 hFc hP1 hD1
              generalize H1 = H at hP hS ⊢
              have hP : va_P (dC, dI) classes [(tg, .inl (cB, N, .inl g)), (h, .inr (13, [.ref sm, .ref wd, .int 32, .int 64, .ref bl, .int (nI F12), .long (tl + 1), .int k12])), (sm, .inl (cI, 8, .inl f12)), (wd, .inl (cI, 64, .inl w12)), (bl, .inl (cB, 64, .inl b12))] H := hP
              have hD : va_D A [(tg, .inl (cB, N, .inl g)), (h, .inr (13, [.ref sm, .ref wd, .int 32, .int 64, .ref bl, .int (nI F12), .long (tl + 1), .int k12])), (sm, .inl (cI, 8, .inl f12)), (wd, .inl (cI, 64, .inl w12)), (bl, .inl (cB, 64, .inl b12))] := hD
              refine lv_iinc (v := x + (-8)) (lv' := [(5, .int (x + (-8))), (0, .ref h), (1, .ref tg), (2, .int (nI a)), (3, .long ((tk : Int32).toInt64 * 8))]) hx hb d_MD_finish_83 hl (k := 4) rfl (by exact rfl) (by decide) rfl (fun ls hl => ?_)
              refine lv_goto (tgt := 69) hx hb d_MD_finish_86 (by decide) ?_
              exact ih_69 (mm + 1) (x + (-8)) f12 w12 b12 F12 (tl + 1) k12 _ _ _ (by omega) (sh_shx_s hm hx0) (hF12) (by show sh_put1 _ (sh_lens tk mm _) = _; rw [hs]; have h9 := hs12; rw [hx1.2] at h9; rw [← md_lenb_eq tk mm (by omega)]; exact h9) (hP.sub [1, 2, 3, 4, 0] rfl) (hD.sub [1, 2, 3, 4, 0] (by decide) rfl) hS (lv_sub hl [1, 2, 3, 4, 0] rfl)
        exact loop_69 _ 0 56 f w b F tl bk _ _ _ (Nat.lt_succ_self _) (Or.inl ⟨by decide, rfl⟩) (hF) (hs) hP hD hS (lv_sub hl [1, 2, 3, 4, 0] rfl)
      · have hne : ¬ (F11 + k) % 64 = 56 := by have h9 := sh_zeros_F (f11, b11, F11) hF11 k; rw [hs] at h9; dsimp only at h9; intro z; exact c_32 (by rw [h9, z]; rfl)
        refine lv_aload_n hx hb d_MD_finish_35 rfl (lv_at hl 0 rfl) ?_
        refine lv_iconst (v := 0) hx hb d_MD_finish_36 (by decide) ?_
        have hPc := hP.sub (ws' := [(h, .inr (13, [.ref sm, .ref wd, .int 32, .int 64, .ref bl, .int (nI F), .long tl, .int bk])), (sm, .inl (cI, 8, .inl f)), (wd, .inl (cI, 64, .inl w)), (bl, .inl (cB, 64, .inl b))]) [0, 1, 2, 3] rfl
        have hDc := hD.sub (ws' := [(h, .inr (13, [.ref sm, .ref wd, .int 32, .int 64, .ref bl, .int (nI F), .long tl, .int bk])), (sm, .inl (cI, 8, .inl f)), (wd, .inl (cI, 64, .inl w)), (bl, .inl (cB, 64, .inl b))]) [0, 1, 2, 3] (by decide) rfl
        have hFc := va_free (wc := [(h, .inr (13, [.ref sm, .ref wd, .int 32, .int 64, .ref bl, .int (nI F), .long tl, .int bk])), (sm, .inl (cI, 8, .inl f)), (wd, .inl (cI, 64, .inl w)), (bl, .inl (cB, 64, .inl b))]) hD hS hA [0, 1, 2, 3] rfl
        refine va_callv (va_runU (As := [.int 0]) (rest := []) ⟨hx, hb, hml, hown, hts⟩ (m_MD_one l dC dI cI cB cL cZ cR h sm wd bl f w b F bk tl 0 H.size (by omega)) (va_cwU 1 hts (xg_U gw_1817 gw_1819 gw_1820 gw_1818 gw_14 gw_1821) rfl rfl rfl rfl (by decide +kernel) ⟨Nat.le_of_ble_eq_true rfl, Nat.le_of_ble_eq_true rfl⟩) ⟨xw_blindx, va_recv hK hPc (ci := 13) (q0 := 0) rfl rfl, fun U hU hW => ⟨rfl, by rw [hU], by rw [hU]; exact hPc, va_K.moved hW.alike hK, hDc.weaken (fun _ _ _ _ => trivial), xg_N.warm hW hN, by rw [hU]; exact ((hTh.kept (fun a h1 h2 => hS.2.1 a h1 h2)).narrow hFc).moved hW.alike⟩⟩ rfl rfl hl.1 rfl (lv_room (Nat.le_of_ble_eq_true rfl)) d_MD_finish_37 ⟨Nat.le_of_ble_eq_true rfl, Nat.le_of_ble_eq_true rfl⟩) hS (fun q _ h => hFc q h) hFc (fun u t H1 locs ht hvm hw hB hz1 hk1 hS => ?_)
        obtain ⟨f13, w13, b13, F13, k13⟩ := u
        obtain ⟨hs13, hF13⟩ := sh_one_of hw
        dsimp only at hs13 hF13
        obtain ⟨hP1, hK1, hD1⟩ := hB
        rw [ht] at hP1
        obtain ⟨hP, hD⟩ := va_join (wr := [(tg, .inl (cB, N, .inl g))]) (w1 := [(h, .inr (13, [.ref sm, .ref wd, .int 32, .int 64, .ref bl, .int (nI F13), .long (tl + 1), .int k13])), (sm, .inl (cI, 8, .inl f13)), (wd, .inl (cI, 64, .inl w13)), (bl, .inl (cB, 64, .inl b13))]) hP hD [0, 1, 2, 3] [4] rfl rfl (by decide) (by decide) hk1 hFc hP1 hD1
        generalize H1 = H at hP hS ⊢
        have hP : va_P (dC, dI) classes [(tg, .inl (cB, N, .inl g)), (h, .inr (13, [.ref sm, .ref wd, .int 32, .int 64, .ref bl, .int (nI F13), .long (tl + 1), .int k13])), (sm, .inl (cI, 8, .inl f13)), (wd, .inl (cI, 64, .inl w13)), (bl, .inl (cB, 64, .inl b13))] H := hP
        have hD : va_D A [(tg, .inl (cB, N, .inl g)), (h, .inr (13, [.ref sm, .ref wd, .int 32, .int 64, .ref bl, .int (nI F13), .long (tl + 1), .int k13])), (sm, .inl (cI, 8, .inl f13)), (wd, .inl (cI, 64, .inl w13)), (bl, .inl (cB, 64, .inl b13))] := hD
        refine lv_goto (tgt := 16) hx hb d_MD_finish_40 (by decide) ?_
        exact ih_16 (k + 1) f13 w13 b13 F13 (tl + 1) k13 _ _ _ (by have := sh_z_on hF11 hk hne; omega) (sh_z_on hF11 hk hne) (hF13) (by show sh_put1 0 (sh_zeros k (f11, b11, F11)) = _; rw [hs]; exact hs13) (hP.sub [1, 2, 3, 4, 0] rfl) (hD.sub [1, 2, 3, 4, 0] (by decide) rfl) hS (lv_sub hl [0, 1, 2, 3] rfl)
  exact loop_16 _ 0 f11 w11 b11 F11 ((tk : Int32).toInt64 + 1) k11 _ _ _ (Nat.lt_succ_self _) (Nat.zero_le _) (hF11) (rfl) (hP.sub [1, 2, 3, 4, 0] rfl) (hD.sub [1, 2, 3, 4, 0] (by decide) rfl) hS (lv_sub hl [1, 2, 3, 0] rfl)
