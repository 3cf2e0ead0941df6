section
/-! 38.msha3.lean.txt -/
theorem gw_1816 : (Jvm.Cond.constantLong "PatchStoreModel$Digest" (56 : Nat) (8 : Int64)) ∈ xg_1 := xg_s8 136 rfl rfl
theorem gw_1817 : (Jvm.Cond.methodLink "PatchStoreModel$Digest" (58 : Nat) ({ cls := "PatchStoreModel$Digest", name := "one", desc := "(I)V" } : Jvm.MethodName)) ∈ xg_1 := xg_s8 137 rfl rfl
theorem gw_1818 : (Jvm.Cond.instanceMethod ({ cls := "PatchStoreModel$Digest", name := "one", desc := "(I)V" } : Jvm.MethodName)) ∈ xg_1 := xg_s8 138 rfl rfl
theorem gw_1819 : (Jvm.Cond.sameMethod "PatchStoreModel$Digest" "PatchStoreModel$Digest" "one" "(I)V") ∈ xg_1 := xg_s8 139 rfl rfl
theorem gw_1821 : (Jvm.Cond.code ({ cls := "PatchStoreModel$Digest", name := "one", desc := "(I)V" } : Jvm.MethodName) prog_15_method_9_code (2 : Nat) (Option.none : Option Jvm.ClassFile.FieldType)) ∈ xg_1 := xg_s8 141 rfl rfl
theorem gw_1822 : (Jvm.Cond.methodLink "PatchStoreModel$Digest" (62 : Nat) ({ cls := "PatchStoreModel$Digest", name := "put", desc := "([BI)V" } : Jvm.MethodName)) ∈ xg_1 := xg_s8 142 rfl rfl
theorem gn_1823 : (Jvm.Cond.declares ({ cls := "PatchStoreModel$Digest", name := "put", desc := "([BI)V" } : Jvm.MethodName)) ∈ xg_2 := xg_u8 143 rfl rfl
theorem gw_1824 : (Jvm.Cond.sameMethod "PatchStoreModel$Digest" "PatchStoreModel$Digest" "put" "([BI)V") ∈ xg_1 := xg_s8 144 rfl rfl
theorem gw_1825 : (Jvm.Cond.selects "PatchStoreModel$Sha256" ({ cls := "PatchStoreModel$Digest", name := "put", desc := "([BI)V" } : Jvm.MethodName) ({ cls := "PatchStoreModel$Sha256", name := "put", desc := "([BI)V" } : Jvm.MethodName)) ∈ xg_1 := xg_s8 145 rfl rfl
theorem gw_1826 : (Jvm.Cond.instanceMethod ({ cls := "PatchStoreModel$Sha256", name := "put", desc := "([BI)V" } : Jvm.MethodName)) ∈ xg_1 := xg_s8 146 rfl rfl
theorem gw_1827 : (Jvm.Cond.code ({ cls := "PatchStoreModel$Sha256", name := "put", desc := "([BI)V" } : Jvm.MethodName) prog_17_method_6_code (4 : Nat) (Option.none : Option Jvm.ClassFile.FieldType)) ∈ xg_1 := xg_s8 147 rfl rfl
def y_MD_finish : MethodName := ⟨"PatchStoreModel$Digest", "finish", "([BI)V"⟩
abbrev c_MD_finish : Cond := (Jvm.Cond.code ({ cls := "PatchStoreModel$Digest", name := "finish", desc := "([BI)V" } : Jvm.MethodName) prog_15_method_11_code (6 : Nat) (Option.none : Option Jvm.ClassFile.FieldType))
abbrev ws_MD_finish : List Cond := c_MD_finish :: xg_1
theorem d_MD_finish_0 : decode prog_15_method_11_code 0 = .ok (.aload_n 0, 1) := by decide +kernel
theorem d_MD_finish_1 : decode prog_15_method_11_code 1 = .ok (.getfield 13, 3) := by decide +kernel
theorem d_MD_finish_4 : decode prog_15_method_11_code 4 = .ok (.ldc2_w 56, 3) := by decide +kernel
theorem d_MD_finish_7 : decode prog_15_method_11_code 7 = .ok (.lmul, 1) := by decide +kernel
theorem d_MD_finish_8 : decode prog_15_method_11_code 8 = .ok (.lstore_n 3, 1) := by decide +kernel
theorem d_MD_finish_9 : decode prog_15_method_11_code 9 = .ok (.aload_n 0, 1) := by decide +kernel
theorem d_MD_finish_10 : decode prog_15_method_11_code 10 = .ok (.sipush 128, 3) := by decide +kernel
theorem d_MD_finish_13 : decode prog_15_method_11_code 13 = .ok (.invokevirtual 58, 3) := by decide +kernel
theorem d_MD_finish_16 : decode prog_15_method_11_code 16 = .ok (.aload_n 0, 1) := by decide +kernel
theorem d_MD_finish_17 : decode prog_15_method_11_code 17 = .ok (.getfield 7, 3) := by decide +kernel
theorem d_MD_finish_20 : decode prog_15_method_11_code 20 = .ok (.aload_n 0, 1) := by decide +kernel
theorem d_MD_finish_21 : decode prog_15_method_11_code 21 = .ok (.getfield 23, 3) := by decide +kernel
theorem d_MD_finish_24 : decode prog_15_method_11_code 24 = .ok (.aload_n 0, 1) := by decide +kernel
theorem d_MD_finish_25 : decode prog_15_method_11_code 25 = .ok (.getfield 23, 3) := by decide +kernel
theorem d_MD_finish_28 : decode prog_15_method_11_code 28 = .ok (.bipush 8, 2) := by decide +kernel
theorem d_MD_finish_30 : decode prog_15_method_11_code 30 = .ok (.idiv, 1) := by decide +kernel
theorem d_MD_finish_31 : decode prog_15_method_11_code 31 = .ok (.isub, 1) := by decide +kernel
theorem d_MD_finish_32 : decode prog_15_method_11_code 32 = .ok (.if_icmp .eq 11, 3) := by decide +kernel
theorem d_MD_finish_35 : decode prog_15_method_11_code 35 = .ok (.aload_n 0, 1) := by decide +kernel
theorem d_MD_finish_36 : decode prog_15_method_11_code 36 = .ok (.iconst 0, 1) := by decide +kernel
theorem d_MD_finish_37 : decode prog_15_method_11_code 37 = .ok (.invokevirtual 58, 3) := by decide +kernel
theorem d_MD_finish_40 : decode prog_15_method_11_code 40 = .ok (.goto (-24), 3) := by decide +kernel
theorem d_MD_finish_43 : decode prog_15_method_11_code 43 = .ok (.aload_n 0, 1) := by decide +kernel
theorem d_MD_finish_44 : decode prog_15_method_11_code 44 = .ok (.getfield 7, 3) := by decide +kernel
theorem d_MD_finish_47 : decode prog_15_method_11_code 47 = .ok (.aload_n 0, 1) := by decide +kernel
theorem d_MD_finish_48 : decode prog_15_method_11_code 48 = .ok (.getfield 23, 3) := by decide +kernel
theorem d_MD_finish_51 : decode prog_15_method_11_code 51 = .ok (.bipush 8, 2) := by decide +kernel
theorem d_MD_finish_53 : decode prog_15_method_11_code 53 = .ok (.isub, 1) := by decide +kernel
theorem d_MD_finish_54 : decode prog_15_method_11_code 54 = .ok (.if_icmp .eq 11, 3) := by decide +kernel
theorem d_MD_finish_65 : decode prog_15_method_11_code 65 = .ok (.bipush 56, 2) := by decide +kernel
theorem d_MD_finish_67 : decode prog_15_method_11_code 67 = .ok (.istore 5, 2) := by decide +kernel
theorem d_MD_finish_69 : decode prog_15_method_11_code 69 = .ok (.iload 5, 2) := by decide +kernel
theorem d_MD_finish_71 : decode prog_15_method_11_code 71 = .ok (.ifCond .lt 18, 3) := by decide +kernel
theorem d_MD_finish_74 : decode prog_15_method_11_code 74 = .ok (.aload_n 0, 1) := by decide +kernel
theorem d_MD_finish_75 : decode prog_15_method_11_code 75 = .ok (.lload_n 3, 1) := by decide +kernel
theorem d_MD_finish_76 : decode prog_15_method_11_code 76 = .ok (.iload 5, 2) := by decide +kernel
theorem d_MD_finish_78 : decode prog_15_method_11_code 78 = .ok (.lushr, 1) := by decide +kernel
theorem d_MD_finish_79 : decode prog_15_method_11_code 79 = .ok (.l2i, 1) := by decide +kernel
theorem d_MD_finish_80 : decode prog_15_method_11_code 80 = .ok (.invokevirtual 58, 3) := by decide +kernel
theorem d_MD_finish_83 : decode prog_15_method_11_code 83 = .ok (.iinc 5 (-8), 3) := by decide +kernel
theorem d_MD_finish_86 : decode prog_15_method_11_code 86 = .ok (.goto (-17), 3) := by decide +kernel
theorem d_MD_finish_89 : decode prog_15_method_11_code 89 = .ok (.aload_n 0, 1) := by decide +kernel
theorem d_MD_finish_90 : decode prog_15_method_11_code 90 = .ok (.aload_n 1, 1) := by decide +kernel
theorem d_MD_finish_91 : decode prog_15_method_11_code 91 = .ok (.iload_n 2, 1) := by decide +kernel
theorem d_MD_finish_92 : decode prog_15_method_11_code 92 = .ok (.invokevirtual 62, 3) := by decide +kernel
theorem d_MD_finish_95 : decode prog_15_method_11_code 95 = .ok (.return_, 1) := by decide +kernel
theorem u8_bw (x : BitVec 64) (n : Nat) (hn : n ≤ 56) : (x >>> n).signExtend 8 = (x.sshiftRight n).signExtend 8 := by
  rw [BitVec.signExtend_eq_setWidth_of_le _ (by decide), BitVec.signExtend_eq_setWidth_of_le _ (by decide)]
  ext i hi
  simp only [BitVec.getElem_setWidth, BitVec.getLsbD_sshiftRight, BitVec.getLsbD_ushiftRight]
  rw [if_pos (by omega)]
  simp
  omega
def md_lenb (tl : Int64) (k : Nat) : Int32 := (((tl * 8).toUInt64 >>> ((nI (56 - 8 * k)).toInt64.toUInt64 &&& Int64.toUInt64 63)).toInt64.toInt32).toInt8.toInt32
theorem md_lenb_eq (tk : Int32) : ∀ k, k < 8 → md_lenb tk.toInt64 k = sh_lenb tk k := by
  intro k hk
  unfold md_lenb sh_lenb
  generalize tk.toInt64 * 8 = x
  congr 1
  apply Int8.toBitVec_inj.mp
  rcases (show k = 0 ∨ k = 1 ∨ k = 2 ∨ k = 3 ∨ k = 4 ∨ k = 5 ∨ k = 6 ∨ k = 7 by omega) with rfl | rfl | rfl | rfl | rfl | rfl | rfl | rfl
  · rw [show (nI (56 - 8 * 0)).toInt64.toUInt64 &&& Int64.toUInt64 63 = 56 from by decide, show (nI (56 - 8 * 0)).toInt64 &&& 63 = 56 from by decide]; simpa using u8_bw x.toBitVec 56 (by decide)
  · rw [show (nI (56 - 8 * 1)).toInt64.toUInt64 &&& Int64.toUInt64 63 = 48 from by decide, show (nI (56 - 8 * 1)).toInt64 &&& 63 = 48 from by decide]; simpa using u8_bw x.toBitVec 48 (by decide)
  · rw [show (nI (56 - 8 * 2)).toInt64.toUInt64 &&& Int64.toUInt64 63 = 40 from by decide, show (nI (56 - 8 * 2)).toInt64 &&& 63 = 40 from by decide]; simpa using u8_bw x.toBitVec 40 (by decide)
  · rw [show (nI (56 - 8 * 3)).toInt64.toUInt64 &&& Int64.toUInt64 63 = 32 from by decide, show (nI (56 - 8 * 3)).toInt64 &&& 63 = 32 from by decide]; simpa using u8_bw x.toBitVec 32 (by decide)
  · rw [show (nI (56 - 8 * 4)).toInt64.toUInt64 &&& Int64.toUInt64 63 = 24 from by decide, show (nI (56 - 8 * 4)).toInt64 &&& 63 = 24 from by decide]; simpa using u8_bw x.toBitVec 24 (by decide)
  · rw [show (nI (56 - 8 * 5)).toInt64.toUInt64 &&& Int64.toUInt64 63 = 16 from by decide, show (nI (56 - 8 * 5)).toInt64 &&& 63 = 16 from by decide]; simpa using u8_bw x.toBitVec 16 (by decide)
  · rw [show (nI (56 - 8 * 6)).toInt64.toUInt64 &&& Int64.toUInt64 63 = 8 from by decide, show (nI (56 - 8 * 6)).toInt64 &&& 63 = 8 from by decide]; simpa using u8_bw x.toBitVec 8 (by decide)
  · rw [show (nI (56 - 8 * 7)).toInt64.toUInt64 &&& Int64.toUInt64 63 = 0 from by decide, show (nI (56 - 8 * 7)).toInt64 &&& 63 = 0 from by decide]; simpa using u8_bw x.toBitVec 0 (by decide)
theorem sh_one_of {f b : Nat → Int32} {w : Nat → Int32} {F : Nat} {bk x : Int32} {u : (Nat → Int32) × (Nat → Int32) × (Nat → Int32) × Nat × Int32} (h : (F + 1 < 64 ∧ u = (f, w, upd b F x, F + 1, bk)) ∨ (F + 1 = 64 ∧ ∃ w1, u = (sh_comp f (upd b F x), w1, upd b F x, 0, bk + 1))) : sh_put1 x (f, b, F) = (u.1, u.2.2.1, u.2.2.2.1) ∧ u.2.2.2.1 < 64 := by
  rcases h with ⟨h1, rfl⟩ | ⟨h1, w1, rfl⟩
  · exact ⟨by unfold sh_put1; rw [if_pos h1], h1⟩
  · exact ⟨by unfold sh_put1; rw [if_neg (show ¬ F + 1 < 64 by omega)], (by show (0 : Nat) < 64; decide)⟩
set_option maxHeartbeats 4000000 in
set_option maxRecDepth 100000 in
/-- finish of the model's Digest -/
theorem m_MD_finish (l : Launch) (dC : Nat → ClassId) (dI : Nat → Nat → Nat) (cI cB cL cZ cR : ClassId) (h sm wd bl tg : Nat) (f0 w0 b0 : Nat → Int32) (Fz : Nat) (tk bk0 : Int32) (N a : Nat) (g : Nat → Int32) (sz : Nat) (hFz : Fz < 64) (hN9 : N < 2 ^ 31) (haM : a + 32 ≤ N) : Met l y_MD_finish ws_MD_finish ({ frames := 5, cells := 0, slots := 0, locals := 300 }) (xw_Px dC dI [(cI, .int), (cB, .byte), (cL, .long), (cZ, .boolean), (cR, .object "PatchStore$Repository")] [.ref h, .ref tg, .int (nI a)] [(h, .inr (13, [.ref sm, .ref wd, .int 32, .int 64, .ref bl, .int (nI Fz), .long ((tk : Int32).toInt64), .int bk0])), (sm, .inl (cI, 8, .inl f0)), (wd, .inl (cI, 64, .inl w0)), (bl, .inl (cB, 64, .inl b0)), (tg, .inl (cB, N, .inl g))] sz) (va_Qv (fun u : (Nat → Int32) × (Nat → Int32) × (Nat → Int32) × Nat × Int64 × Int32 × (Nat → Int32) => sh_fin tk (f0, b0, Fz) = (u.1, u.2.2.1, u.2.2.2.1) ∧ u.2.2.2.1 < 64 ∧ u.2.2.2.2.2.2 = sh_out u.1 a 32 g) (fun u t => xw_B dC dI [(cI, .int), (cB, .byte), (cL, .long), (cZ, .boolean), (cR, .object "PatchStore$Repository")] (va_A [(h, .inr (13, [.ref sm, .ref wd, .int 32, .int 64, .ref bl, .int (nI Fz), .long ((tk : Int32).toInt64), .int bk0])), (sm, .inl (cI, 8, .inl f0)), (wd, .inl (cI, 64, .inl w0)), (bl, .inl (cB, 64, .inl b0)), (tg, .inl (cB, N, .inl g))] sz) [(h, .inr (13, [.ref sm, .ref wd, .int 32, .int 64, .ref bl, .int (nI u.2.2.2.1), .long u.2.2.2.2.1, .int u.2.2.2.2.2.1])), (sm, .inl (cI, 8, .inl u.1)), (wd, .inl (cI, 64, .inl u.2.1)), (bl, .inl (cB, 64, .inl u.2.2.1)), (tg, .inl (cB, N, .inl u.2.2.2.2.2.2))] t) (va_A [(h, .inr (13, [.ref sm, .ref wd, .int 32, .int 64, .ref bl, .int (nI Fz), .long ((tk : Int32).toInt64), .int bk0])), (sm, .inl (cI, 8, .inl f0)), (wd, .inl (cI, 64, .inl w0)), (bl, .inl (cB, 64, .inl b0)), (tg, .inl (cB, N, .inl g))] sz)) 0 0 (va_A [(h, .inr (13, [.ref sm, .ref wd, .int 32, .int 64, .ref bl, .int (nI Fz), .long ((tk : Int32).toInt64), .int bk0])), (sm, .inl (cI, 8, .inl f0)), (wd, .inl (cI, 64, .inl w0)), (bl, .inl (cB, 64, .inl b0)), (tg, .inl (cB, N, .inl g))] sz) := by
  refine Met.ofW (cc := prog_15_method_11_code) (maxL := 6) (ret := none) (by decide) rfl ?_
  intro p e s m args below meth c s₁ B hml hv
  obtain ⟨rfl, hsz, hP, hK, hD0, hN, hTh⟩ := hv
  have hx := B.exec
  have hb := B.bytes
  have hr := B.returns
  have hts0 := atoms_spec (ws := ws_MD_finish) B.pre
  have hts : ∀ w ∈ xg_1, w.before _ s = true := fun w h => hts0 w (List.mem_cons_of_mem _ h)
  have hown : s.vm.findClass "PatchStoreModel$Digest" = some m.cls := findClass_of_methodNamed B.named
  have hlocks := B.notSynchronized
  subst hsz
  have hD := hD0.self (sz := s.heap.size)
  generalize hAe : va_A [(h, .inr (13, [.ref sm, .ref wd, .int 32, .int 64, .ref bl, .int (nI Fz), .long ((tk : Int32).toInt64), .int bk0])), (sm, .inl (cI, 8, .inl f0)), (wd, .inl (cI, 64, .inl w0)), (bl, .inl (cB, 64, .inl b0)), (tg, .inl (cB, N, .inl g))] s.heap.size = A at hD hTh ⊢
  have hA : ∀ q : Nat, s.heap.size ≤ q → A q := fun q h => by rw [← hAe]; exact Or.inr h
  have hS : va_S A s.heap s.heap [] := va_S.rf
  have hl := lv_entry ([.ref h, .ref tg, .int (nI a)]) (n := 6) (Nat.le_of_ble_eq_true rfl)
  rw [lg_entry_eq]
  generalize (lg_sl ([.ref h, .ref tg, .int (nI a)]) ++ List.replicate (6 - (lg_sl ([.ref h, .ref tg, .int (nI a)])).length) Slot.unset).toArray = ls at hl ⊢
  have hl : lv_has ls 6 [(0, .ref h), (1, .ref tg), (2, .int (nI a))] := hl
  generalize hQe : MQ _ _ _ _ _ _ _ = Q
  refine lv_aload_n hx hb d_MD_finish_0 rfl (lv_at hl 0 rfl) ?_
  refine va_get (D := (dC, dI)) (ci := 13) (v := .long ((tk : Int32).toInt64)) (C := R_MS) (T := F_MS) (N := 8) hx hb hts i_MS hown hK hP 0 rfl rfl 6 (by decide) (hts _ gw_1396) (fun _ h9 => h9) rfl d_MD_finish_1 ?_
  refine lv_ldc2 (own := "PatchStoreModel$Digest") hx hb hown (hts _ gw_1816) d_MD_finish_4 ?_
  refine lv_lmul hx hb d_MD_finish_7 ?_
  refine lv_lstore_n (lv' := [(3, .long (((tk : Int32).toInt64) * 8)), (0, .ref h), (1, .ref tg), (2, .int (nI a))]) hx hb d_MD_finish_8 rfl hl (by decide) rfl (fun ls hl => ?_)
  refine lv_aload_n hx hb d_MD_finish_9 rfl (lv_at hl 1 rfl) ?_
  refine lv_sipush (v := 128) hx hb d_MD_finish_10 (by decide) ?_
  have hPc := hP.sub (ws' := [(h, .inr (13, [.ref sm, .ref wd, .int 32, .int 64, .ref bl, .int (nI Fz), .long ((tk : Int32).toInt64), .int bk0])), (sm, .inl (cI, 8, .inl f0)), (wd, .inl (cI, 64, .inl w0)), (bl, .inl (cB, 64, .inl b0))]) [0, 1, 2, 3] rfl
  have hDc := hD.sub (ws' := [(h, .inr (13, [.ref sm, .ref wd, .int 32, .int 64, .ref bl, .int (nI Fz), .long ((tk : Int32).toInt64), .int bk0])), (sm, .inl (cI, 8, .inl f0)), (wd, .inl (cI, 64, .inl w0)), (bl, .inl (cB, 64, .inl b0))]) [0, 1, 2, 3] (by decide) rfl
  have hFc := va_free (wc := [(h, .inr (13, [.ref sm, .ref wd, .int 32, .int 64, .ref bl, .int (nI Fz), .long ((tk : Int32).toInt64), .int bk0])), (sm, .inl (cI, 8, .inl f0)), (wd, .inl (cI, 64, .inl w0)), (bl, .inl (cB, 64, .inl b0))]) hD hS hA [0, 1, 2, 3] rfl
  refine va_callv (va_runU (As := [.int 128]) (rest := []) ⟨hx, hb, hml, hown, hts⟩ (m_MD_one l dC dI cI cB cL cZ cR h sm wd bl f0 w0 b0 Fz bk0 ((tk : Int32).toInt64) 128 s.heap.size (by omega)) (va_cwU 1 hts (xg_U gw_1817 gw_1819 gw_1820 gw_1818 gw_14 gw_1821) rfl rfl rfl rfl (by decide +kernel) ⟨Nat.le_of_ble_eq_true rfl, Nat.le_of_ble_eq_true rfl⟩) ⟨xw_blindx, va_recv hK hPc (ci := 13) (q0 := 0) rfl rfl, fun U hU hW => ⟨rfl, by rw [hU], by rw [hU]; exact hPc, va_K.moved hW.alike hK, hDc.weaken (fun _ _ _ _ => trivial), xg_N.warm hW hN, by rw [hU]; exact ((hTh.kept (fun a h1 h2 => hS.2.1 a h1 h2)).narrow hFc).moved hW.alike⟩⟩ rfl rfl hl.1 rfl (lv_room (Nat.le_of_ble_eq_true rfl)) d_MD_finish_13 ⟨Nat.le_of_ble_eq_true rfl, Nat.le_of_ble_eq_true rfl⟩) hS (fun q _ h => hFc q h) hFc (fun u t H1 locs ht hvm hw hB hz1 hk1 hS => ?_)
  obtain ⟨f11, w11, b11, F11, k11⟩ := u
  obtain ⟨hs11, hF11⟩ := sh_one_of hw
  dsimp only at hs11 hF11
  obtain ⟨hP1, hK1, hD1⟩ := hB
  rw [ht] at hP1
  obtain ⟨hP, hD⟩ := va_join (wr := [(tg, .inl (cB, N, .inl g))]) (w1 := [(h, .inr (13, [.ref sm, .ref wd, .int 32, .int 64, .ref bl, .int (nI F11), .long (((tk : Int32).toInt64) + 1), .int k11])), (sm, .inl (cI, 8, .inl f11)), (wd, .inl (cI, 64, .inl w11)), (bl, .inl (cB, 64, .inl b11))]) hP hD [0, 1, 2, 3] [4] rfl rfl (by decide) (by decide) hk1 hFc hP1 hD1
  generalize H1 = H at hP hS ⊢
  have hP : va_P (dC, dI) classes [(tg, .inl (cB, N, .inl g)), (h, .inr (13, [.ref sm, .ref wd, .int 32, .int 64, .ref bl, .int (nI F11), .long (((tk : Int32).toInt64) + 1), .int k11])), (sm, .inl (cI, 8, .inl f11)), (wd, .inl (cI, 64, .inl w11)), (bl, .inl (cB, 64, .inl b11))] H := hP
  have hD : va_D A [(tg, .inl (cB, N, .inl g)), (h, .inr (13, [.ref sm, .ref wd, .int 32, .int 64, .ref bl, .int (nI F11), .long (((tk : Int32).toInt64) + 1), .int k11])), (sm, .inl (cI, 8, .inl f11)), (wd, .inl (cI, 64, .inl w11)), (bl, .inl (cB, 64, .inl b11))] := hD
  have loop_16 : ∀ (n : Nat) (k : Nat) (f : Nat → Int32) (w : Nat → Int32) (b : Nat → Int32) (F : Nat) (tl : Int64) (bk : Int32) (H : Heap) (locs : List Loc) (ls : Array Slot), sh_z F11 - k < n → (k ≤ sh_z F11) → (F < 64) → (sh_zeros k (f11, b11, F11) = (f, b, F)) → va_P (dC, dI) classes [(h, .inr (13, [.ref sm, .ref wd, .int 32, .int 64, .ref bl, .int (nI F), .long tl, .int bk])), (sm, .inl (cI, 8, .inl f)), (wd, .inl (cI, 64, .inl w)), (bl, .inl (cB, 64, .inl b)), (tg, .inl (cB, N, .inl g))] H → va_D A [(h, .inr (13, [.ref sm, .ref wd, .int 32, .int 64, .ref bl, .int (nI F), .long tl, .int bk])), (sm, .inl (cI, 8, .inl f)), (wd, .inl (cI, 64, .inl w)), (bl, .inl (cB, 64, .inl b)), (tg, .inl (cB, N, .inl g))] → va_S A s.heap H locs → lv_has ls 6 [(0, .ref h), (1, .ref tg), (2, .int (nI a)), (3, .long ((tk : Int32).toInt64 * 8))] → W p l e (headSpec ws_MD_finish ({ frames := 5, cells := 0, slots := 0, locals := 300 })).room s m ([.ref h, .ref tg, .int (nI a)] : List Value).toArray below meth c H locs 0 0 Q (F0 m 16 ls []) := by
    intro n
    induction n with
    | zero => intro k f w b F tl bk H locs ls hm; exact absurd hm (Nat.not_lt_zero _)
    | succ n ih_16 =>
      intro k f w b F tl bk H locs ls hm hk hF hs hP hD hS hl
      refine lv_aload_n hx hb d_MD_finish_16 rfl (lv_at hl 0 rfl) ?_
      refine va_get (D := (dC, dI)) (ci := 13) (v := .int (nI F)) (C := R_MS) (T := F_MS) (N := 8) hx hb hts i_MS hown hK hP 0 rfl rfl 5 (by decide) (hts _ gw_1395) (fun _ h9 => h9) rfl d_MD_finish_17 ?_
      refine lv_aload_n hx hb d_MD_finish_20 rfl (lv_at hl 0 rfl) ?_
      refine va_get (D := (dC, dI)) (ci := 13) (v := .int 64) (C := R_MS) (T := F_MS) (N := 8) hx hb hts i_MS hown hK hP 0 rfl rfl 3 (by decide) (hts _ gw_1393) (fun _ h9 => h9) rfl d_MD_finish_21 ?_
      refine lv_aload_n hx hb d_MD_finish_24 rfl (lv_at hl 0 rfl) ?_
      refine va_get (D := (dC, dI)) (ci := 13) (v := .int 64) (C := R_MS) (T := F_MS) (N := 8) hx hb hts i_MS hown hK hP 0 rfl rfl 3 (by decide) (hts _ gw_1393) (fun _ h9 => h9) rfl d_MD_finish_25 ?_
      refine lv_bipush (v := 8) hx hb d_MD_finish_28 (by decide) ?_
      refine lv_idiv hx hb d_MD_finish_30 (by decide) ?_
      refine lv_isub hx hb d_MD_finish_31 ?_
      refine lv_topi (fun x_1 ex_1 => ?_)
      obtain rfl : x_1 = 56 := by rw [ex_1]; first | done | (decide)
      refine lv_icmp_eq (tgt := 43) hx hb d_MD_finish_32 (by decide) (fun c_32 => ?_) (fun c_32 => ?_)
      · have hF6 : F = 56 := (nI_eq (a := F) (b := 56) (by omega) (by omega)).mp c_32
        have hkz : k = sh_z F11 := sh_z_at hF11 hk (by have h9 := sh_zeros_F (f11, b11, F11) hF11 k; rw [hs] at h9; dsimp only at h9; omega)
        subst hkz
        refine lv_aload_n hx hb d_MD_finish_43 rfl (lv_at hl 0 rfl) ?_
        refine va_get (D := (dC, dI)) (ci := 13) (v := .int (nI F)) (C := R_MS) (T := F_MS) (N := 8) hx hb hts i_MS hown hK hP 0 rfl rfl 5 (by decide) (hts _ gw_1395) (fun _ h9 => h9) rfl d_MD_finish_44 ?_
        refine lv_aload_n hx hb d_MD_finish_47 rfl (lv_at hl 0 rfl) ?_
        refine va_get (D := (dC, dI)) (ci := 13) (v := .int 64) (C := R_MS) (T := F_MS) (N := 8) hx hb hts i_MS hown hK hP 0 rfl rfl 3 (by decide) (hts _ gw_1393) (fun _ h9 => h9) rfl d_MD_finish_48 ?_
        refine lv_bipush (v := 8) hx hb d_MD_finish_51 (by decide) ?_
        refine lv_isub hx hb d_MD_finish_53 ?_
        refine lv_topi (fun x_2 ex_2 => ?_)
        obtain rfl : x_2 = 56 := by rw [ex_2]; first | done | (decide)
        refine lv_icmp_eq (tgt := 65) hx hb d_MD_finish_54 (by decide) (fun _ => ?_) (fun c_54 => absurd (show nI F = 56 from by rw [hF6]; rfl) c_54)
        refine lv_bipush (v := 56) hx hb d_MD_finish_65 (by decide) ?_
        refine lv_istore (lv' := [(5, .int 56), (0, .ref h), (1, .ref tg), (2, .int (nI a)), (3, .long ((tk : Int32).toInt64 * 8))]) hx hb d_MD_finish_67 hl (by decide) rfl (fun ls hl => ?_)
        have loop_69 : ∀ (n : Nat) (mm : Nat) (x : Int32) (f : Nat → Int32) (w : Nat → Int32) (b : Nat → Int32) (F : Nat) (tl : Int64) (bk : Int32) (H : Heap) (locs : List Loc) (ls : Array Slot), 8 - mm < n → (sh_shx mm x) → (F < 64) → (sh_lens tk mm (sh_zeros (sh_z F11) (f11, b11, F11)) = (f, b, F)) → va_P (dC, dI) classes [(h, .inr (13, [.ref sm, .ref wd, .int 32, .int 64, .ref bl, .int (nI F), .long tl, .int bk])), (sm, .inl (cI, 8, .inl f)), (wd, .inl (cI, 64, .inl w)), (bl, .inl (cB, 64, .inl b)), (tg, .inl (cB, N, .inl g))] H → va_D A [(h, .inr (13, [.ref sm, .ref wd, .int 32, .int 64, .ref bl, .int (nI F), .long tl, .int bk])), (sm, .inl (cI, 8, .inl f)), (wd, .inl (cI, 64, .inl w)), (bl, .inl (cB, 64, .inl b)), (tg, .inl (cB, N, .inl g))] → va_S A s.heap H locs → lv_has ls 6 [(0, .ref h), (1, .ref tg), (2, .int (nI a)), (3, .long ((tk : Int32).toInt64 * 8)), (5, .int x)] → W p l e (headSpec ws_MD_finish ({ frames := 5, cells := 0, slots := 0, locals := 300 })).room s m ([.ref h, .ref tg, .int (nI a)] : List Value).toArray below meth c H locs 0 0 Q (F0 m 69 ls []) := by
          intro n
          induction n with
          | zero => intro mm x f w b F tl bk H locs ls hm; exact absurd hm (Nat.not_lt_zero _)
          | succ n ih_69 =>
            intro mm x f w b F tl bk H locs ls hm hm hF hs hP hD hS hl
            refine lv_iload hx hb d_MD_finish_69 (lv_at hl 4 rfl) ?_
            refine lv_if_lt (tgt := 89) hx hb d_MD_finish_71 (by decide) (fun c_71 => ?_) (fun c_71 => ?_)
            · have hm8 : mm = 8 := sh_shx_e hm c_71
              subst hm8
              refine lv_aload_n hx hb d_MD_finish_89 rfl (lv_at hl 0 rfl) ?_
              refine lv_aload_n hx hb d_MD_finish_90 rfl (lv_at hl 1 rfl) ?_
              refine lv_iload_n hx hb d_MD_finish_91 rfl (lv_at hl 2 rfl) ?_
              have hPc := hP.sub (ws' := [(h, .inr (13, [.ref sm, .ref wd, .int 32, .int 64, .ref bl, .int (nI F), .long tl, .int bk])), (sm, .inl (cI, 8, .inl f)), (tg, .inl (cB, N, .inl g))]) [0, 1, 4] rfl
              have hDc := hD.sub (ws' := [(h, .inr (13, [.ref sm, .ref wd, .int 32, .int 64, .ref bl, .int (nI F), .long tl, .int bk])), (sm, .inl (cI, 8, .inl f)), (tg, .inl (cB, N, .inl g))]) [0, 1, 4] (by decide) rfl
              have hFc := va_free (wc := [(h, .inr (13, [.ref sm, .ref wd, .int 32, .int 64, .ref bl, .int (nI F), .long tl, .int bk])), (sm, .inl (cI, 8, .inl f)), (tg, .inl (cB, N, .inl g))]) hD hS hA [0, 1, 4] rfl
              refine va_callv (va_runU (As := [.ref tg, .int (nI a)]) (rest := []) ⟨hx, hb, hml, hown, hts⟩ (m_MS_put l dC dI cI cB cL cZ cR h sm tg (.ref wd) (.int 32) (.int 64) (.ref bl) (.int (nI F)) (.long tl) (.int bk) N a f g H.size hN9 haM) (va_cwA 2 hts (xg_U gw_1822 gw_1824 gw_1825 gw_1826 gw_15 gw_1827) rfl rfl rfl (hN _ gn_1823) (by decide +kernel) ⟨Nat.le_of_ble_eq_true rfl, Nat.le_of_ble_eq_true rfl⟩) ⟨xw_blind, va_recv hK hPc (ci := 13) (q0 := 0) rfl rfl, fun U hU hW => ⟨rfl, by rw [hU], by rw [hU]; exact hPc, va_K.moved hW.alike hK, hDc.weaken (fun _ _ _ _ => trivial)⟩⟩ rfl rfl hl.1 rfl (lv_room (Nat.le_of_ble_eq_true rfl)) d_MD_finish_92 ⟨Nat.le_of_ble_eq_true rfl, Nat.le_of_ble_eq_true rfl⟩) hS (fun q _ h => hFc q h) hFc (fun u t H1 locs ht hvm hw hB hz1 hk1 hS => ?_)
              obtain ⟨hP1, hK1, hD1⟩ := hB
              rw [ht] at hP1
              obtain ⟨hP, hD⟩ := va_join (wr := [(wd, .inl (cI, 64, .inl w)), (bl, .inl (cB, 64, .inl b))]) (w1 := [(h, .inr (13, [.ref sm, .ref wd, .int 32, .int 64, .ref bl, .int (nI F), .long tl, .int bk])), (sm, .inl (cI, 8, .inl f)), (tg, .inl (cB, N, .inl (sh_out f a 32 g)))]) hP hD [0, 1, 4] [2, 3] rfl rfl (by decide) (by decide) hk1 hFc hP1 hD1
              generalize H1 = H at hP hS ⊢
              have hP : va_P (dC, dI) classes [(wd, .inl (cI, 64, .inl w)), (bl, .inl (cB, 64, .inl b)), (h, .inr (13, [.ref sm, .ref wd, .int 32, .int 64, .ref bl, .int (nI F), .long tl, .int bk])), (sm, .inl (cI, 8, .inl f)), (tg, .inl (cB, N, .inl (sh_out f a 32 g)))] H := hP
              have hD : va_D A [(wd, .inl (cI, 64, .inl w)), (bl, .inl (cB, 64, .inl b)), (h, .inr (13, [.ref sm, .ref wd, .int 32, .int 64, .ref bl, .int (nI F), .long tl, .int bk])), (sm, .inl (cI, 8, .inl f)), (tg, .inl (cB, N, .inl (sh_out f a 32 g)))] := hD
              have hP := hP.sub (ws' := [(h, .inr (13, [.ref sm, .ref wd, .int 32, .int 64, .ref bl, .int (nI F), .long tl, .int bk])), (sm, .inl (cI, 8, .inl f)), (wd, .inl (cI, 64, .inl w)), (bl, .inl (cB, 64, .inl b)), (tg, .inl (cB, N, .inl (sh_out f a 32 g)))]) [2, 3, 0, 1, 4] rfl
              have hD := hD.sub (ws' := [(h, .inr (13, [.ref sm, .ref wd, .int 32, .int 64, .ref bl, .int (nI F), .long tl, .int bk])), (sm, .inl (cI, 8, .inl f)), (wd, .inl (cI, 64, .inl w)), (bl, .inl (cB, 64, .inl b)), (tg, .inl (cB, N, .inl (sh_out f a 32 g)))]) [2, 3, 0, 1, 4] (by decide) rfl
              rw [← hQe]
              exact W.vret hx hb hr (fun t ht hW => ⟨⟨(f, w, b, F, tl, bk, sh_out f a 32 g), rfl, ⟨by unfold sh_fin; rw [show (-128 : Int32) = ((128 : Int32) : Int32).toInt8.toInt32 from by decide, hs11]; exact hs, hF, rfl⟩, by rw [ht]; exact hP, va_K.moved hW.alike hK, hD⟩, hS.F ht⟩) hS.2.2 d_MD_finish_95
            · have hx0 : ¬ x < 0 := c_71
              have hx1 := sh_shx_n hm c_71
              have hm7 : mm ≤ 7 := hx1.1
              refine lv_aload_n hx hb d_MD_finish_74 rfl (lv_at hl 0 rfl) ?_
              refine lv_lload_n hx hb d_MD_finish_75 rfl (lv_at hl 3 rfl) ?_
              refine lv_iload hx hb d_MD_finish_76 (lv_at hl 4 rfl) ?_
              refine lv_lushr hx hb d_MD_finish_78 rfl ?_
              refine lv_l2i hx hb d_MD_finish_79 rfl ?_
              have hPc := hP.sub (ws' := [(h, .inr (13, [.ref sm, .ref wd, .int 32, .int 64, .ref bl, .int (nI F), .long tl, .int bk])), (sm, .inl (cI, 8, .inl f)), (wd, .inl (cI, 64, .inl w)), (bl, .inl (cB, 64, .inl b))]) [0, 1, 2, 3] rfl
              have hDc := hD.sub (ws' := [(h, .inr (13, [.ref sm, .ref wd, .int 32, .int 64, .ref bl, .int (nI F), .long tl, .int bk])), (sm, .inl (cI, 8, .inl f)), (wd, .inl (cI, 64, .inl w)), (bl, .inl (cB, 64, .inl b))]) [0, 1, 2, 3] (by decide) rfl
              have hFc := va_free (wc := [(h, .inr (13, [.ref sm, .ref wd, .int 32, .int 64, .ref bl, .int (nI F), .long tl, .int bk])), (sm, .inl (cI, 8, .inl f)), (wd, .inl (cI, 64, .inl w)), (bl, .inl (cB, 64, .inl b))]) hD hS hA [0, 1, 2, 3] rfl
              refine va_callv (va_runU (As := [.int (((((tk : Int32).toInt64 * 8).toUInt64 >>> ((x : Int32).toInt64.toUInt64 &&& Int64.toUInt64 63)).toInt64 : Int64).toInt32)]) (rest := []) ⟨hx, hb, hml, hown, hts⟩ (m_MD_one l dC dI cI cB cL cZ cR h sm wd bl f w b F bk tl (((((tk : Int32).toInt64 * 8).toUInt64 >>> ((x : Int32).toInt64.toUInt64 &&& Int64.toUInt64 63)).toInt64 : Int64).toInt32) H.size (by omega)) (va_cwU 1 hts (xg_U gw_1817 gw_1819 gw_1820 gw_1818 gw_14 gw_1821) rfl rfl rfl rfl (by decide +kernel) ⟨Nat.le_of_ble_eq_true rfl, Nat.le_of_ble_eq_true rfl⟩) ⟨xw_blindx, va_recv hK hPc (ci := 13) (q0 := 0) rfl rfl, fun U hU hW => ⟨rfl, by rw [hU], by rw [hU]; exact hPc, va_K.moved hW.alike hK, hDc.weaken (fun _ _ _ _ => trivial), xg_N.warm hW hN, by rw [hU]; exact ((hTh.kept (fun a h1 h2 => hS.2.1 a h1 h2)).narrow hFc).moved hW.alike⟩⟩ rfl rfl hl.1 rfl (lv_room (Nat.le_of_ble_eq_true rfl)) d_MD_finish_80 ⟨Nat.le_of_ble_eq_true rfl, Nat.le_of_ble_eq_true rfl⟩) hS (fun q _ h => hFc q h) hFc (fun u t H1 locs ht hvm hw hB hz1 hk1 hS => ?_)
              obtain ⟨f12, w12, b12, F12, k12⟩ := u
              obtain ⟨hs12, hF12⟩ := sh_one_of hw
              dsimp only at hs12 hF12
              obtain ⟨hP1, hK1, hD1⟩ := hB
              rw [ht] at hP1
              obtain ⟨hP, hD⟩ := va_join (wr := [(tg, .inl (cB, N, .inl g))]) (w1 := [(h, .inr (13, [.ref sm, .ref wd, .int 32, .int 64, .ref bl, .int (nI F12), .long (tl + 1), .int k12])), (sm, .inl (cI, 8, .inl f12)), (wd, .inl (cI, 64, .inl w12)), (bl, .inl (cB, 64, .inl b12))]) hP hD [0, 1, 2, 3] [4] rfl rfl (by decide) (by decide) hk1 hFc hP1 hD1
              generalize H1 = H at hP hS ⊢
              have hP : va_P (dC, dI) classes [(tg, .inl (cB, N, .inl g)), (h, .inr (13, [.ref sm, .ref wd, .int 32, .int 64, .ref bl, .int (nI F12), .long (tl + 1), .int k12])), (sm, .inl (cI, 8, .inl f12)), (wd, .inl (cI, 64, .inl w12)), (bl, .inl (cB, 64, .inl b12))] H := hP
              have hD : va_D A [(tg, .inl (cB, N, .inl g)), (h, .inr (13, [.ref sm, .ref wd, .int 32, .int 64, .ref bl, .int (nI F12), .long (tl + 1), .int k12])), (sm, .inl (cI, 8, .inl f12)), (wd, .inl (cI, 64, .inl w12)), (bl, .inl (cB, 64, .inl b12))] := hD
              refine lv_iinc (v := x + (-8)) (lv' := [(5, .int (x + (-8))), (0, .ref h), (1, .ref tg), (2, .int (nI a)), (3, .long ((tk : Int32).toInt64 * 8))]) hx hb d_MD_finish_83 hl (k := 4) rfl (by exact rfl) (by decide) rfl (fun ls hl => ?_)
              refine lv_goto (tgt := 69) hx hb d_MD_finish_86 (by decide) ?_
              exact ih_69 (mm + 1) (x + (-8)) f12 w12 b12 F12 (tl + 1) k12 _ _ _ (by omega) (sh_shx_s hm hx0) (hF12) (by show sh_put1 _ (sh_lens tk mm _) = _; rw [hs]; have h9 := hs12; rw [hx1.2] at h9; rw [← md_lenb_eq tk mm (by omega)]; exact h9) (hP.sub [1, 2, 3, 4, 0] rfl) (hD.sub [1, 2, 3, 4, 0] (by decide) rfl) hS (lv_sub hl [1, 2, 3, 4, 0] rfl)
        exact loop_69 _ 0 56 f w b F tl bk _ _ _ (Nat.lt_succ_self _) (Or.inl ⟨by decide, rfl⟩) (hF) (hs) hP hD hS (lv_sub hl [1, 2, 3, 4, 0] rfl)
      · have hne : ¬ (F11 + k) % 64 = 56 := by have h9 := sh_zeros_F (f11, b11, F11) hF11 k; rw [hs] at h9; dsimp only at h9; intro z; exact c_32 (by rw [h9, z]; rfl)
        refine lv_aload_n hx hb d_MD_finish_35 rfl (lv_at hl 0 rfl) ?_
        refine lv_iconst (v := 0) hx hb d_MD_finish_36 (by decide) ?_
        have hPc := hP.sub (ws' := [(h, .inr (13, [.ref sm, .ref wd, .int 32, .int 64, .ref bl, .int (nI F), .long tl, .int bk])), (sm, .inl (cI, 8, .inl f)), (wd, .inl (cI, 64, .inl w)), (bl, .inl (cB, 64, .inl b))]) [0, 1, 2, 3] rfl
        have hDc := hD.sub (ws' := [(h, .inr (13, [.ref sm, .ref wd, .int 32, .int 64, .ref bl, .int (nI F), .long tl, .int bk])), (sm, .inl (cI, 8, .inl f)), (wd, .inl (cI, 64, .inl w)), (bl, .inl (cB, 64, .inl b))]) [0, 1, 2, 3] (by decide) rfl
        have hFc := va_free (wc := [(h, .inr (13, [.ref sm, .ref wd, .int 32, .int 64, .ref bl, .int (nI F), .long tl, .int bk])), (sm, .inl (cI, 8, .inl f)), (wd, .inl (cI, 64, .inl w)), (bl, .inl (cB, 64, .inl b))]) hD hS hA [0, 1, 2, 3] rfl
        refine va_callv (va_runU (As := [.int 0]) (rest := []) ⟨hx, hb, hml, hown, hts⟩ (m_MD_one l dC dI cI cB cL cZ cR h sm wd bl f w b F bk tl 0 H.size (by omega)) (va_cwU 1 hts (xg_U gw_1817 gw_1819 gw_1820 gw_1818 gw_14 gw_1821) rfl rfl rfl rfl (by decide +kernel) ⟨Nat.le_of_ble_eq_true rfl, Nat.le_of_ble_eq_true rfl⟩) ⟨xw_blindx, va_recv hK hPc (ci := 13) (q0 := 0) rfl rfl, fun U hU hW => ⟨rfl, by rw [hU], by rw [hU]; exact hPc, va_K.moved hW.alike hK, hDc.weaken (fun _ _ _ _ => trivial), xg_N.warm hW hN, by rw [hU]; exact ((hTh.kept (fun a h1 h2 => hS.2.1 a h1 h2)).narrow hFc).moved hW.alike⟩⟩ rfl rfl hl.1 rfl (lv_room (Nat.le_of_ble_eq_true rfl)) d_MD_finish_37 ⟨Nat.le_of_ble_eq_true rfl, Nat.le_of_ble_eq_true rfl⟩) hS (fun q _ h => hFc q h) hFc (fun u t H1 locs ht hvm hw hB hz1 hk1 hS => ?_)
        obtain ⟨f13, w13, b13, F13, k13⟩ := u
        obtain ⟨hs13, hF13⟩ := sh_one_of hw
        dsimp only at hs13 hF13
        obtain ⟨hP1, hK1, hD1⟩ := hB
        rw [ht] at hP1
        obtain ⟨hP, hD⟩ := va_join (wr := [(tg, .inl (cB, N, .inl g))]) (w1 := [(h, .inr (13, [.ref sm, .ref wd, .int 32, .int 64, .ref bl, .int (nI F13), .long (tl + 1), .int k13])), (sm, .inl (cI, 8, .inl f13)), (wd, .inl (cI, 64, .inl w13)), (bl, .inl (cB, 64, .inl b13))]) hP hD [0, 1, 2, 3] [4] rfl rfl (by decide) (by decide) hk1 hFc hP1 hD1
        generalize H1 = H at hP hS ⊢
        have hP : va_P (dC, dI) classes [(tg, .inl (cB, N, .inl g)), (h, .inr (13, [.ref sm, .ref wd, .int 32, .int 64, .ref bl, .int (nI F13), .long (tl + 1), .int k13])), (sm, .inl (cI, 8, .inl f13)), (wd, .inl (cI, 64, .inl w13)), (bl, .inl (cB, 64, .inl b13))] H := hP
        have hD : va_D A [(tg, .inl (cB, N, .inl g)), (h, .inr (13, [.ref sm, .ref wd, .int 32, .int 64, .ref bl, .int (nI F13), .long (tl + 1), .int k13])), (sm, .inl (cI, 8, .inl f13)), (wd, .inl (cI, 64, .inl w13)), (bl, .inl (cB, 64, .inl b13))] := hD
        refine lv_goto (tgt := 16) hx hb d_MD_finish_40 (by decide) ?_
        exact ih_16 (k + 1) f13 w13 b13 F13 (tl + 1) k13 _ _ _ (by have := sh_z_on hF11 hk hne; omega) (sh_z_on hF11 hk hne) (hF13) (by show sh_put1 0 (sh_zeros k (f11, b11, F11)) = _; rw [hs]; exact hs13) (hP.sub [1, 2, 3, 4, 0] rfl) (hD.sub [1, 2, 3, 4, 0] (by decide) rfl) hS (lv_sub hl [0, 1, 2, 3] rfl)
  exact loop_16 _ 0 f11 w11 b11 F11 ((tk : Int32).toInt64 + 1) k11 _ _ _ (Nat.lt_succ_self _) (Nat.zero_le _) (hF11) (rfl) (hP.sub [1, 2, 3, 4, 0] rfl) (hD.sub [1, 2, 3, 4, 0] (by decide) rfl) hS (lv_sub hl [1, 2, 3, 0] rfl)
end
section
/-! 39.mstate.lean.txt -/
theorem gw_1764 : (Jvm.Cond.methodLink "PatchStoreModel" (282 : Nat) ({ cls := "PatchStoreModel$Sha256", name := "reset", desc := "()V" } : Jvm.MethodName)) ∈ xg_1 := xg_s8 84 rfl rfl
theorem gw_1765 : (Jvm.Cond.sameMethod "PatchStoreModel$Sha256" "PatchStoreModel$Digest" "reset" "()V") ∈ xg_1 := xg_s8 85 rfl rfl
theorem gw_1767 : (Jvm.Cond.selects "PatchStoreModel$Sha256" ({ cls := "PatchStoreModel$Sha256", name := "reset", desc := "()V" } : Jvm.MethodName) ({ cls := "PatchStoreModel$Digest", name := "reset", desc := "()V" } : Jvm.MethodName)) ∈ xg_1 := xg_s8 87 rfl rfl
theorem gw_1768 : (Jvm.Cond.instanceMethod ({ cls := "PatchStoreModel$Digest", name := "reset", desc := "()V" } : Jvm.MethodName)) ∈ xg_1 := xg_s8 88 rfl rfl
theorem gw_1769 : (Jvm.Cond.code ({ cls := "PatchStoreModel$Digest", name := "reset", desc := "()V" } : Jvm.MethodName) prog_15_method_6_code (1 : Nat) (Option.none : Option Jvm.ClassFile.FieldType)) ∈ xg_1 := xg_s8 89 rfl rfl
theorem gw_1810 : (Jvm.Cond.methodLink "PatchStoreModel" (289 : Nat) ({ cls := "PatchStoreModel$Sha256", name := "finish", desc := "([BI)V" } : Jvm.MethodName)) ∈ xg_1 := xg_s8 130 rfl rfl
theorem gw_1811 : (Jvm.Cond.sameMethod "PatchStoreModel$Sha256" "PatchStoreModel$Digest" "finish" "([BI)V") ∈ xg_1 := xg_s8 131 rfl rfl
theorem gw_1813 : (Jvm.Cond.selects "PatchStoreModel$Sha256" ({ cls := "PatchStoreModel$Sha256", name := "finish", desc := "([BI)V" } : Jvm.MethodName) ({ cls := "PatchStoreModel$Digest", name := "finish", desc := "([BI)V" } : Jvm.MethodName)) ∈ xg_1 := xg_s8 133 rfl rfl
theorem gw_1814 : (Jvm.Cond.instanceMethod ({ cls := "PatchStoreModel$Digest", name := "finish", desc := "([BI)V" } : Jvm.MethodName)) ∈ xg_1 := xg_s8 134 rfl rfl
theorem gw_1815 : (Jvm.Cond.code ({ cls := "PatchStoreModel$Digest", name := "finish", desc := "([BI)V" } : Jvm.MethodName) prog_15_method_11_code (6 : Nat) (Option.none : Option Jvm.ClassFile.FieldType)) ∈ xg_1 := xg_s8 135 rfl rfl
def y_Md_state : MethodName := ⟨"PatchStoreModel", "state", "(II)I"⟩
abbrev c_Md_state : Cond := (Jvm.Cond.code ({ cls := "PatchStoreModel", name := "state", desc := "(II)I" } : Jvm.MethodName) prog_14_method_75_code (6 : Nat) (Option.some Jvm.ClassFile.FieldType.int))
abbrev ws_Md_state : List Cond := c_Md_state :: xg_1
theorem d_Md_state_0 : decode prog_14_method_75_code 0 = .ok (.aload_n 0, 1) := by decide +kernel
theorem d_Md_state_1 : decode prog_14_method_75_code 1 = .ok (.iload_n 1, 1) := by decide +kernel
theorem d_Md_state_2 : decode prog_14_method_75_code 2 = .ok (.invokevirtual 430, 3) := by decide +kernel
theorem d_Md_state_5 : decode prog_14_method_75_code 5 = .ok (.ifCond .ne 26, 3) := by decide +kernel
theorem d_Md_state_8 : decode prog_14_method_75_code 8 = .ok (.aload_n 0, 1) := by decide +kernel
theorem d_Md_state_9 : decode prog_14_method_75_code 9 = .ok (.iconst 2, 1) := by decide +kernel
theorem d_Md_state_10 : decode prog_14_method_75_code 10 = .ok (.iload_n 2, 1) := by decide +kernel
theorem d_Md_state_11 : decode prog_14_method_75_code 11 = .ok (.ifCond .lt 9, 3) := by decide +kernel
theorem d_Md_state_14 : decode prog_14_method_75_code 14 = .ok (.iload_n 2, 1) := by decide +kernel
theorem d_Md_state_15 : decode prog_14_method_75_code 15 = .ok (.bipush 31, 2) := by decide +kernel
theorem d_Md_state_17 : decode prog_14_method_75_code 17 = .ok (.if_icmp .le 7, 3) := by decide +kernel
theorem d_Md_state_20 : decode prog_14_method_75_code 20 = .ok (.iconst 1, 1) := by decide +kernel
theorem d_Md_state_21 : decode prog_14_method_75_code 21 = .ok (.goto 4, 3) := by decide +kernel
theorem d_Md_state_24 : decode prog_14_method_75_code 24 = .ok (.iconst 0, 1) := by decide +kernel
theorem d_Md_state_25 : decode prog_14_method_75_code 25 = .ok (.invokevirtual 278, 3) := by decide +kernel
theorem d_Md_state_28 : decode prog_14_method_75_code 28 = .ok (.ifCond .eq 5, 3) := by decide +kernel
theorem d_Md_state_31 : decode prog_14_method_75_code 31 = .ok (.iconst 0, 1) := by decide +kernel
theorem d_Md_state_32 : decode prog_14_method_75_code 32 = .ok (.ireturn, 1) := by decide +kernel
theorem d_Md_state_33 : decode prog_14_method_75_code 33 = .ok (.iconst 0, 1) := by decide +kernel
theorem d_Md_state_34 : decode prog_14_method_75_code 34 = .ok (.istore_n 3, 1) := by decide +kernel
theorem d_Md_state_35 : decode prog_14_method_75_code 35 = .ok (.iconst 0, 1) := by decide +kernel
theorem d_Md_state_36 : decode prog_14_method_75_code 36 = .ok (.istore 4, 2) := by decide +kernel
theorem d_Md_state_38 : decode prog_14_method_75_code 38 = .ok (.iload 4, 2) := by decide +kernel
theorem d_Md_state_40 : decode prog_14_method_75_code 40 = .ok (.aload_n 0, 1) := by decide +kernel
theorem d_Md_state_41 : decode prog_14_method_75_code 41 = .ok (.getfield 52, 3) := by decide +kernel
theorem d_Md_state_44 : decode prog_14_method_75_code 44 = .ok (.if_icmp .ge 84, 3) := by decide +kernel
theorem d_Md_state_47 : decode prog_14_method_75_code 47 = .ok (.aload_n 0, 1) := by decide +kernel
theorem d_Md_state_48 : decode prog_14_method_75_code 48 = .ok (.getfield 122, 3) := by decide +kernel
theorem d_Md_state_51 : decode prog_14_method_75_code 51 = .ok (.iload_n 1, 1) := by decide +kernel
theorem d_Md_state_52 : decode prog_14_method_75_code 52 = .ok (.aaload, 1) := by decide +kernel
theorem d_Md_state_53 : decode prog_14_method_75_code 53 = .ok (.iload 4, 2) := by decide +kernel
theorem d_Md_state_55 : decode prog_14_method_75_code 55 = .ok (.baload, 1) := by decide +kernel
theorem d_Md_state_56 : decode prog_14_method_75_code 56 = .ok (.ifCond .ne 6, 3) := by decide +kernel
theorem d_Md_state_59 : decode prog_14_method_75_code 59 = .ok (.goto 63, 3) := by decide +kernel
theorem d_Md_state_62 : decode prog_14_method_75_code 62 = .ok (.iload_n 3, 1) := by decide +kernel
theorem d_Md_state_63 : decode prog_14_method_75_code 63 = .ok (.iinc 3 1, 3) := by decide +kernel
theorem d_Md_state_66 : decode prog_14_method_75_code 66 = .ok (.istore 5, 2) := by decide +kernel
theorem d_Md_state_68 : decode prog_14_method_75_code 68 = .ok (.iload 5, 2) := by decide +kernel
theorem d_Md_state_70 : decode prog_14_method_75_code 70 = .ok (.ifCond .le 43, 3) := by decide +kernel
theorem d_Md_state_73 : decode prog_14_method_75_code 73 = .ok (.aload_n 0, 1) := by decide +kernel
theorem d_Md_state_74 : decode prog_14_method_75_code 74 = .ok (.aload_n 0, 1) := by decide +kernel
theorem d_Md_state_75 : decode prog_14_method_75_code 75 = .ok (.getfield 274, 3) := by decide +kernel
theorem d_Md_state_78 : decode prog_14_method_75_code 78 = .ok (.iload 5, 2) := by decide +kernel
theorem d_Md_state_80 : decode prog_14_method_75_code 80 = .ok (.iconst 1, 1) := by decide +kernel
theorem d_Md_state_81 : decode prog_14_method_75_code 81 = .ok (.isub, 1) := by decide +kernel
theorem d_Md_state_82 : decode prog_14_method_75_code 82 = .ok (.iaload, 1) := by decide +kernel
theorem d_Md_state_83 : decode prog_14_method_75_code 83 = .ok (.iload 4, 2) := by decide +kernel
theorem d_Md_state_85 : decode prog_14_method_75_code 85 = .ok (.invokevirtual 382, 3) := by decide +kernel
theorem d_Md_state_88 : decode prog_14_method_75_code 88 = .ok (.ifCond .le 25, 3) := by decide +kernel
theorem d_Md_state_91 : decode prog_14_method_75_code 91 = .ok (.aload_n 0, 1) := by decide +kernel
theorem d_Md_state_92 : decode prog_14_method_75_code 92 = .ok (.getfield 274, 3) := by decide +kernel
theorem d_Md_state_95 : decode prog_14_method_75_code 95 = .ok (.iload 5, 2) := by decide +kernel
theorem d_Md_state_97 : decode prog_14_method_75_code 97 = .ok (.aload_n 0, 1) := by decide +kernel
theorem d_Md_state_98 : decode prog_14_method_75_code 98 = .ok (.getfield 274, 3) := by decide +kernel
theorem d_Md_state_101 : decode prog_14_method_75_code 101 = .ok (.iload 5, 2) := by decide +kernel
theorem d_Md_state_103 : decode prog_14_method_75_code 103 = .ok (.iconst 1, 1) := by decide +kernel
theorem d_Md_state_104 : decode prog_14_method_75_code 104 = .ok (.isub, 1) := by decide +kernel
theorem d_Md_state_105 : decode prog_14_method_75_code 105 = .ok (.iaload, 1) := by decide +kernel
theorem d_Md_state_106 : decode prog_14_method_75_code 106 = .ok (.iastore, 1) := by decide +kernel
theorem d_Md_state_107 : decode prog_14_method_75_code 107 = .ok (.iinc 5 (-1), 3) := by decide +kernel
theorem d_Md_state_110 : decode prog_14_method_75_code 110 = .ok (.goto (-42), 3) := by decide +kernel
theorem d_Md_state_113 : decode prog_14_method_75_code 113 = .ok (.aload_n 0, 1) := by decide +kernel
theorem d_Md_state_114 : decode prog_14_method_75_code 114 = .ok (.getfield 274, 3) := by decide +kernel
theorem d_Md_state_117 : decode prog_14_method_75_code 117 = .ok (.iload 5, 2) := by decide +kernel
theorem d_Md_state_119 : decode prog_14_method_75_code 119 = .ok (.iload 4, 2) := by decide +kernel
theorem d_Md_state_121 : decode prog_14_method_75_code 121 = .ok (.iastore, 1) := by decide +kernel
theorem d_Md_state_122 : decode prog_14_method_75_code 122 = .ok (.iinc 4 1, 3) := by decide +kernel
theorem d_Md_state_125 : decode prog_14_method_75_code 125 = .ok (.goto (-87), 3) := by decide +kernel
theorem d_Md_state_128 : decode prog_14_method_75_code 128 = .ok (.aload_n 0, 1) := by decide +kernel
theorem d_Md_state_129 : decode prog_14_method_75_code 129 = .ok (.getfield 131, 3) := by decide +kernel
theorem d_Md_state_132 : decode prog_14_method_75_code 132 = .ok (.invokevirtual 282, 3) := by decide +kernel
theorem d_Md_state_135 : decode prog_14_method_75_code 135 = .ok (.iconst 0, 1) := by decide +kernel
theorem d_Md_state_136 : decode prog_14_method_75_code 136 = .ok (.istore 4, 2) := by decide +kernel
theorem d_Md_state_138 : decode prog_14_method_75_code 138 = .ok (.iload 4, 2) := by decide +kernel
theorem d_Md_state_140 : decode prog_14_method_75_code 140 = .ok (.iload_n 3, 1) := by decide +kernel
theorem d_Md_state_141 : decode prog_14_method_75_code 141 = .ok (.if_icmp .ge 31, 3) := by decide +kernel
theorem d_Md_state_144 : decode prog_14_method_75_code 144 = .ok (.aload_n 0, 1) := by decide +kernel
theorem d_Md_state_145 : decode prog_14_method_75_code 145 = .ok (.getfield 131, 3) := by decide +kernel
theorem d_Md_state_148 : decode prog_14_method_75_code 148 = .ok (.aload_n 0, 1) := by decide +kernel
theorem d_Md_state_149 : decode prog_14_method_75_code 149 = .ok (.getfield 45, 3) := by decide +kernel
theorem d_Md_state_152 : decode prog_14_method_75_code 152 = .ok (.aload_n 0, 1) := by decide +kernel
theorem d_Md_state_153 : decode prog_14_method_75_code 153 = .ok (.getfield 274, 3) := by decide +kernel
theorem d_Md_state_156 : decode prog_14_method_75_code 156 = .ok (.iload 4, 2) := by decide +kernel
theorem d_Md_state_158 : decode prog_14_method_75_code 158 = .ok (.iaload, 1) := by decide +kernel
theorem d_Md_state_159 : decode prog_14_method_75_code 159 = .ok (.aaload, 1) := by decide +kernel
theorem d_Md_state_160 : decode prog_14_method_75_code 160 = .ok (.iconst 0, 1) := by decide +kernel
theorem d_Md_state_161 : decode prog_14_method_75_code 161 = .ok (.bipush 32, 2) := by decide +kernel
theorem d_Md_state_163 : decode prog_14_method_75_code 163 = .ok (.invokevirtual 285, 3) := by decide +kernel
theorem d_Md_state_166 : decode prog_14_method_75_code 166 = .ok (.iinc 4 1, 3) := by decide +kernel
theorem d_Md_state_169 : decode prog_14_method_75_code 169 = .ok (.goto (-31), 3) := by decide +kernel
theorem d_Md_state_172 : decode prog_14_method_75_code 172 = .ok (.aload_n 0, 1) := by decide +kernel
theorem d_Md_state_173 : decode prog_14_method_75_code 173 = .ok (.getfield 131, 3) := by decide +kernel
theorem d_Md_state_176 : decode prog_14_method_75_code 176 = .ok (.aload_n 0, 1) := by decide +kernel
theorem d_Md_state_177 : decode prog_14_method_75_code 177 = .ok (.getfield 271, 3) := by decide +kernel
theorem d_Md_state_180 : decode prog_14_method_75_code 180 = .ok (.iconst 0, 1) := by decide +kernel
theorem d_Md_state_181 : decode prog_14_method_75_code 181 = .ok (.invokevirtual 289, 3) := by decide +kernel
theorem d_Md_state_184 : decode prog_14_method_75_code 184 = .ok (.aload_n 0, 1) := by decide +kernel
theorem d_Md_state_185 : decode prog_14_method_75_code 185 = .ok (.getfield 271, 3) := by decide +kernel
theorem d_Md_state_188 : decode prog_14_method_75_code 188 = .ok (.iload_n 2, 1) := by decide +kernel
theorem d_Md_state_189 : decode prog_14_method_75_code 189 = .ok (.baload, 1) := by decide +kernel
theorem d_Md_state_190 : decode prog_14_method_75_code 190 = .ok (.sipush 255, 3) := by decide +kernel
theorem d_Md_state_193 : decode prog_14_method_75_code 193 = .ok (.iand, 1) := by decide +kernel
theorem d_Md_state_194 : decode prog_14_method_75_code 194 = .ok (.ireturn, 1) := by decide +kernel
end
section
/-! 40.law1.lean.txt -/
theorem gw_593 : (Jvm.Cond.classLink "PatchStoreLaw" (13 : Nat) "java/lang/IllegalStateException") ∈ xg_1 := xg_s3 113 rfl rfl
theorem gw_594 : (Jvm.Cond.methodLink "PatchStoreLaw" (7 : Nat) ({ cls := "PatchStore", name := "feed", desc := "(IIIII)I" } : Jvm.MethodName)) ∈ xg_1 := xg_s3 114 rfl rfl
theorem gw_595 : (Jvm.Cond.instanceMethod ({ cls := "PatchStore", name := "feed", desc := "(IIIII)I" } : Jvm.MethodName)) ∈ xg_1 := xg_s3 115 rfl rfl
theorem gw_596 : (Jvm.Cond.selects "PatchStore" ({ cls := "PatchStore", name := "feed", desc := "(IIIII)I" } : Jvm.MethodName) ({ cls := "PatchStore", name := "feed", desc := "(IIIII)I" } : Jvm.MethodName)) ∈ xg_1 := xg_s3 116 rfl rfl
theorem gw_597 : (Jvm.Cond.code ({ cls := "PatchStore", name := "feed", desc := "(IIIII)I" } : Jvm.MethodName) prog_1_method_2_code (6 : Nat) (Option.some Jvm.ClassFile.FieldType.int)) ∈ xg_1 := xg_s3 117 rfl rfl
theorem gw_672 : (Jvm.Cond.classLink "PatchStoreLaw" (19 : Nat) "java/lang/IllegalArgumentException") ∈ xg_1 := xg_s3 192 rfl rfl
theorem gw_673 : (Jvm.Cond.methodLink "PatchStoreLaw" (15 : Nat) ({ cls := "PatchStore", name := "end", desc := "(I)I" } : Jvm.MethodName)) ∈ xg_1 := xg_s3 193 rfl rfl
theorem gw_674 : (Jvm.Cond.instanceMethod ({ cls := "PatchStore", name := "end", desc := "(I)I" } : Jvm.MethodName)) ∈ xg_1 := xg_s3 194 rfl rfl
theorem gw_675 : (Jvm.Cond.selects "PatchStore" ({ cls := "PatchStore", name := "end", desc := "(I)I" } : Jvm.MethodName) ({ cls := "PatchStore", name := "end", desc := "(I)I" } : Jvm.MethodName)) ∈ xg_1 := xg_s3 195 rfl rfl
theorem gw_676 : (Jvm.Cond.code ({ cls := "PatchStore", name := "end", desc := "(I)I" } : Jvm.MethodName) prog_1_method_3_code (2 : Nat) (Option.some Jvm.ClassFile.FieldType.int)) ∈ xg_1 := xg_s3 196 rfl rfl
theorem gw_695 : (Jvm.Cond.classLink "PatchStoreLaw" (25 : Nat) "java/util/NoSuchElementException") ∈ xg_1 := xg_s3 215 rfl rfl
theorem gw_696 : (Jvm.Cond.methodLink "PatchStoreLaw" (21 : Nat) ({ cls := "PatchStore", name := "add", desc := "(II)I" } : Jvm.MethodName)) ∈ xg_1 := xg_s3 216 rfl rfl
theorem gw_697 : (Jvm.Cond.instanceMethod ({ cls := "PatchStore", name := "add", desc := "(II)I" } : Jvm.MethodName)) ∈ xg_1 := xg_s3 217 rfl rfl
theorem gw_698 : (Jvm.Cond.selects "PatchStore" ({ cls := "PatchStore", name := "add", desc := "(II)I" } : Jvm.MethodName) ({ cls := "PatchStore", name := "add", desc := "(II)I" } : Jvm.MethodName)) ∈ xg_1 := xg_s3 218 rfl rfl
theorem gw_699 : (Jvm.Cond.code ({ cls := "PatchStore", name := "add", desc := "(II)I" } : Jvm.MethodName) prog_1_method_4_code (4 : Nat) (Option.some Jvm.ClassFile.FieldType.int)) ∈ xg_1 := xg_s3 219 rfl rfl
theorem gw_987 : (Jvm.Cond.methodLink "PatchStoreLaw" (27 : Nat) ({ cls := "PatchStore", name := "call", desc := "(II)I" } : Jvm.MethodName)) ∈ xg_1 := xg_s5 27 rfl rfl
theorem gw_988 : (Jvm.Cond.instanceMethod ({ cls := "PatchStore", name := "call", desc := "(II)I" } : Jvm.MethodName)) ∈ xg_1 := xg_s5 28 rfl rfl
theorem gw_989 : (Jvm.Cond.selects "PatchStore" ({ cls := "PatchStore", name := "call", desc := "(II)I" } : Jvm.MethodName) ({ cls := "PatchStore", name := "call", desc := "(II)I" } : Jvm.MethodName)) ∈ xg_1 := xg_s5 29 rfl rfl
theorem gw_990 : (Jvm.Cond.code ({ cls := "PatchStore", name := "call", desc := "(II)I" } : Jvm.MethodName) prog_1_method_5_code (5 : Nat) (Option.some Jvm.ClassFile.FieldType.int)) ∈ xg_1 := xg_s5 30 rfl rfl
theorem gw_1036 : (Jvm.Cond.methodLink "PatchStoreLaw" (30 : Nat) ({ cls := "PatchStore", name := "record", desc := "(II)I" } : Jvm.MethodName)) ∈ xg_1 := xg_s5 76 rfl rfl
theorem gw_1037 : (Jvm.Cond.instanceMethod ({ cls := "PatchStore", name := "record", desc := "(II)I" } : Jvm.MethodName)) ∈ xg_1 := xg_s5 77 rfl rfl
theorem gw_1038 : (Jvm.Cond.selects "PatchStore" ({ cls := "PatchStore", name := "record", desc := "(II)I" } : Jvm.MethodName) ({ cls := "PatchStore", name := "record", desc := "(II)I" } : Jvm.MethodName)) ∈ xg_1 := xg_s5 78 rfl rfl
theorem gw_1039 : (Jvm.Cond.code ({ cls := "PatchStore", name := "record", desc := "(II)I" } : Jvm.MethodName) prog_1_method_6_code (5 : Nat) (Option.some Jvm.ClassFile.FieldType.int)) ∈ xg_1 := xg_s5 79 rfl rfl
theorem gw_1203 : (Jvm.Cond.methodLink "PatchStoreLaw" (35 : Nat) ({ cls := "PatchStore", name := "read", desc := "(I)I" } : Jvm.MethodName)) ∈ xg_1 := xg_s6 3 rfl rfl
theorem gw_1204 : (Jvm.Cond.instanceMethod ({ cls := "PatchStore", name := "read", desc := "(I)I" } : Jvm.MethodName)) ∈ xg_1 := xg_s6 4 rfl rfl
theorem gw_1205 : (Jvm.Cond.selects "PatchStore" ({ cls := "PatchStore", name := "read", desc := "(I)I" } : Jvm.MethodName) ({ cls := "PatchStore", name := "read", desc := "(I)I" } : Jvm.MethodName)) ∈ xg_1 := xg_s6 5 rfl rfl
theorem gw_1206 : (Jvm.Cond.code ({ cls := "PatchStore", name := "read", desc := "(I)I" } : Jvm.MethodName) prog_1_method_7_code (4 : Nat) (Option.some Jvm.ClassFile.FieldType.int)) ∈ xg_1 := xg_s6 6 rfl rfl
theorem gw_1214 : (Jvm.Cond.methodLink "PatchStoreLaw" (38 : Nat) ({ cls := "PatchStore", name := "show", desc := "(I)I" } : Jvm.MethodName)) ∈ xg_1 := xg_s6 14 rfl rfl
theorem gw_1215 : (Jvm.Cond.instanceMethod ({ cls := "PatchStore", name := "show", desc := "(I)I" } : Jvm.MethodName)) ∈ xg_1 := xg_s6 15 rfl rfl
theorem gw_1216 : (Jvm.Cond.selects "PatchStore" ({ cls := "PatchStore", name := "show", desc := "(I)I" } : Jvm.MethodName) ({ cls := "PatchStore", name := "show", desc := "(I)I" } : Jvm.MethodName)) ∈ xg_1 := xg_s6 16 rfl rfl
theorem gw_1217 : (Jvm.Cond.code ({ cls := "PatchStore", name := "show", desc := "(I)I" } : Jvm.MethodName) prog_1_method_9_code (3 : Nat) (Option.some Jvm.ClassFile.FieldType.int)) ∈ xg_1 := xg_s6 17 rfl rfl
theorem gw_1226 : (Jvm.Cond.methodLink "PatchStoreLaw" (41 : Nat) ({ cls := "PatchStore", name := "pull", desc := "(III)I" } : Jvm.MethodName)) ∈ xg_1 := xg_s6 26 rfl rfl
theorem gw_1227 : (Jvm.Cond.instanceMethod ({ cls := "PatchStore", name := "pull", desc := "(III)I" } : Jvm.MethodName)) ∈ xg_1 := xg_s6 27 rfl rfl
theorem gw_1228 : (Jvm.Cond.selects "PatchStore" ({ cls := "PatchStore", name := "pull", desc := "(III)I" } : Jvm.MethodName) ({ cls := "PatchStore", name := "pull", desc := "(III)I" } : Jvm.MethodName)) ∈ xg_1 := xg_s6 28 rfl rfl
theorem gw_1229 : (Jvm.Cond.code ({ cls := "PatchStore", name := "pull", desc := "(III)I" } : Jvm.MethodName) prog_1_method_10_code (6 : Nat) (Option.some Jvm.ClassFile.FieldType.int)) ∈ xg_1 := xg_s6 29 rfl rfl
theorem gw_1244 : (Jvm.Cond.methodLink "PatchStoreLaw" (45 : Nat) ({ cls := "PatchStore", name := "drop", desc := "(II)I" } : Jvm.MethodName)) ∈ xg_1 := xg_s6 44 rfl rfl
theorem gw_1245 : (Jvm.Cond.instanceMethod ({ cls := "PatchStore", name := "drop", desc := "(II)I" } : Jvm.MethodName)) ∈ xg_1 := xg_s6 45 rfl rfl
theorem gw_1246 : (Jvm.Cond.selects "PatchStore" ({ cls := "PatchStore", name := "drop", desc := "(II)I" } : Jvm.MethodName) ({ cls := "PatchStore", name := "drop", desc := "(II)I" } : Jvm.MethodName)) ∈ xg_1 := xg_s6 46 rfl rfl
theorem gw_1247 : (Jvm.Cond.code ({ cls := "PatchStore", name := "drop", desc := "(II)I" } : Jvm.MethodName) prog_1_method_11_code (4 : Nat) (Option.some Jvm.ClassFile.FieldType.int)) ∈ xg_1 := xg_s6 47 rfl rfl
theorem gw_1259 : (Jvm.Cond.methodLink "PatchStoreLaw" (48 : Nat) ({ cls := "PatchStore", name := "has", desc := "(III)I" } : Jvm.MethodName)) ∈ xg_1 := xg_s6 59 rfl rfl
theorem gw_1260 : (Jvm.Cond.instanceMethod ({ cls := "PatchStore", name := "has", desc := "(III)I" } : Jvm.MethodName)) ∈ xg_1 := xg_s6 60 rfl rfl
theorem gw_1261 : (Jvm.Cond.selects "PatchStore" ({ cls := "PatchStore", name := "has", desc := "(III)I" } : Jvm.MethodName) ({ cls := "PatchStore", name := "has", desc := "(III)I" } : Jvm.MethodName)) ∈ xg_1 := xg_s6 61 rfl rfl
theorem gw_1262 : (Jvm.Cond.code ({ cls := "PatchStore", name := "has", desc := "(III)I" } : Jvm.MethodName) prog_1_method_12_code (5 : Nat) (Option.some Jvm.ClassFile.FieldType.int)) ∈ xg_1 := xg_s6 62 rfl rfl
theorem gw_1271 : (Jvm.Cond.classLink "PatchStoreLaw" (54 : Nat) "java/lang/IndexOutOfBoundsException") ∈ xg_1 := xg_s6 71 rfl rfl
theorem gw_1272 : (Jvm.Cond.methodLink "PatchStoreLaw" (51 : Nat) ({ cls := "PatchStore", name := "hash", desc := "(II)I" } : Jvm.MethodName)) ∈ xg_1 := xg_s6 72 rfl rfl
theorem gw_1273 : (Jvm.Cond.instanceMethod ({ cls := "PatchStore", name := "hash", desc := "(II)I" } : Jvm.MethodName)) ∈ xg_1 := xg_s6 73 rfl rfl
theorem gw_1274 : (Jvm.Cond.selects "PatchStore" ({ cls := "PatchStore", name := "hash", desc := "(II)I" } : Jvm.MethodName) ({ cls := "PatchStore", name := "hash", desc := "(II)I" } : Jvm.MethodName)) ∈ xg_1 := xg_s6 74 rfl rfl
theorem gw_1275 : (Jvm.Cond.code ({ cls := "PatchStore", name := "hash", desc := "(II)I" } : Jvm.MethodName) prog_1_method_13_code (3 : Nat) (Option.some Jvm.ClassFile.FieldType.int)) ∈ xg_1 := xg_s6 75 rfl rfl
theorem gw_1298 : (Jvm.Cond.methodLink "PatchStoreLaw" (56 : Nat) ({ cls := "PatchStore", name := "state", desc := "(II)I" } : Jvm.MethodName)) ∈ xg_1 := xg_s6 98 rfl rfl
theorem gw_1299 : (Jvm.Cond.instanceMethod ({ cls := "PatchStore", name := "state", desc := "(II)I" } : Jvm.MethodName)) ∈ xg_1 := xg_s6 99 rfl rfl
theorem gw_1300 : (Jvm.Cond.selects "PatchStore" ({ cls := "PatchStore", name := "state", desc := "(II)I" } : Jvm.MethodName) ({ cls := "PatchStore", name := "state", desc := "(II)I" } : Jvm.MethodName)) ∈ xg_1 := xg_s6 100 rfl rfl
theorem gw_1301 : (Jvm.Cond.code ({ cls := "PatchStore", name := "state", desc := "(II)I" } : Jvm.MethodName) prog_1_method_14_code (4 : Nat) (Option.some Jvm.ClassFile.FieldType.int)) ∈ xg_1 := xg_s6 101 rfl rfl
theorem gw_1312 : (Jvm.Cond.methodLink "PatchStoreLaw" (59 : Nat) ({ cls := "PatchStore", name := "about", desc := "(II)I" } : Jvm.MethodName)) ∈ xg_1 := xg_s6 112 rfl rfl
theorem gw_1313 : (Jvm.Cond.instanceMethod ({ cls := "PatchStore", name := "about", desc := "(II)I" } : Jvm.MethodName)) ∈ xg_1 := xg_s6 113 rfl rfl
theorem gw_1314 : (Jvm.Cond.selects "PatchStore" ({ cls := "PatchStore", name := "about", desc := "(II)I" } : Jvm.MethodName) ({ cls := "PatchStore", name := "about", desc := "(II)I" } : Jvm.MethodName)) ∈ xg_1 := xg_s6 114 rfl rfl
theorem gw_1315 : (Jvm.Cond.code ({ cls := "PatchStore", name := "about", desc := "(II)I" } : Jvm.MethodName) prog_1_method_15_code (4 : Nat) (Option.some Jvm.ClassFile.FieldType.int)) ∈ xg_1 := xg_s6 115 rfl rfl
theorem gw_1340 : (Jvm.Cond.methodLink "PatchStoreLaw" (62 : Nat) ({ cls := "PatchStore", name := "file", desc := "(III)I" } : Jvm.MethodName)) ∈ xg_1 := xg_s6 140 rfl rfl
theorem gw_1341 : (Jvm.Cond.instanceMethod ({ cls := "PatchStore", name := "file", desc := "(III)I" } : Jvm.MethodName)) ∈ xg_1 := xg_s6 141 rfl rfl
theorem gw_1342 : (Jvm.Cond.selects "PatchStore" ({ cls := "PatchStore", name := "file", desc := "(III)I" } : Jvm.MethodName) ({ cls := "PatchStore", name := "file", desc := "(III)I" } : Jvm.MethodName)) ∈ xg_1 := xg_s6 142 rfl rfl
theorem gw_1343 : (Jvm.Cond.code ({ cls := "PatchStore", name := "file", desc := "(III)I" } : Jvm.MethodName) prog_1_method_16_code (6 : Nat) (Option.some Jvm.ClassFile.FieldType.int)) ∈ xg_1 := xg_s6 143 rfl rfl
theorem gw_1347 : (Jvm.Cond.methodLink "PatchStoreLaw" (65 : Nat) ({ cls := "PatchStore", name := "name", desc := "(IIII)I" } : Jvm.MethodName)) ∈ xg_1 := xg_s6 147 rfl rfl
theorem gw_1348 : (Jvm.Cond.instanceMethod ({ cls := "PatchStore", name := "name", desc := "(IIII)I" } : Jvm.MethodName)) ∈ xg_1 := xg_s6 148 rfl rfl
theorem gw_1349 : (Jvm.Cond.selects "PatchStore" ({ cls := "PatchStore", name := "name", desc := "(IIII)I" } : Jvm.MethodName) ({ cls := "PatchStore", name := "name", desc := "(IIII)I" } : Jvm.MethodName)) ∈ xg_1 := xg_s6 149 rfl rfl
theorem gw_1350 : (Jvm.Cond.code ({ cls := "PatchStore", name := "name", desc := "(IIII)I" } : Jvm.MethodName) prog_1_method_17_code (8 : Nat) (Option.some Jvm.ClassFile.FieldType.int)) ∈ xg_1 := xg_s6 150 rfl rfl
theorem gw_1359 : (Jvm.Cond.methodLink "PatchStoreLaw" (69 : Nat) ({ cls := "PatchStore", name := "line", desc := "(IIII)I" } : Jvm.MethodName)) ∈ xg_1 := xg_s6 159 rfl rfl
theorem gw_1360 : (Jvm.Cond.instanceMethod ({ cls := "PatchStore", name := "line", desc := "(IIII)I" } : Jvm.MethodName)) ∈ xg_1 := xg_s6 160 rfl rfl
theorem gw_1361 : (Jvm.Cond.selects "PatchStore" ({ cls := "PatchStore", name := "line", desc := "(IIII)I" } : Jvm.MethodName) ({ cls := "PatchStore", name := "line", desc := "(IIII)I" } : Jvm.MethodName)) ∈ xg_1 := xg_s6 161 rfl rfl
theorem gw_1362 : (Jvm.Cond.code ({ cls := "PatchStore", name := "line", desc := "(IIII)I" } : Jvm.MethodName) prog_1_method_18_code (7 : Nat) (Option.some Jvm.ClassFile.FieldType.int)) ∈ xg_1 := xg_s6 162 rfl rfl
def y_Lw_pull : MethodName := ⟨"PatchStoreLaw", "pull", "(LPatchStore;III[J)I"⟩
abbrev c_Lw_pull : Cond := (Jvm.Cond.codeWith ({ cls := "PatchStoreLaw", name := "pull", desc := "(LPatchStore;III[J)I" } : Jvm.MethodName) method_10_code (6 : Nat) (Option.some Jvm.ClassFile.FieldType.int) [((0 : Nat), (12 : Nat), (15 : Nat), (25 : Nat))])
abbrev ws_Lw_pull : List Cond := c_Lw_pull :: xg_1
theorem d_Lw_pull_0 : decode method_10_code 0 = .ok (.aload 4, 2) := by decide +kernel
theorem d_Lw_pull_2 : decode method_10_code 2 = .ok (.iconst 0, 1) := by decide +kernel
theorem d_Lw_pull_3 : decode method_10_code 3 = .ok (.aload_n 0, 1) := by decide +kernel
theorem d_Lw_pull_4 : decode method_10_code 4 = .ok (.iload_n 1, 1) := by decide +kernel
theorem d_Lw_pull_5 : decode method_10_code 5 = .ok (.iload_n 2, 1) := by decide +kernel
theorem d_Lw_pull_6 : decode method_10_code 6 = .ok (.iload_n 3, 1) := by decide +kernel
theorem d_Lw_pull_7 : decode method_10_code 7 = .ok (.invokevirtual 41, 3) := by decide +kernel
theorem d_Lw_pull_10 : decode method_10_code 10 = .ok (.i2l, 1) := by decide +kernel
theorem d_Lw_pull_11 : decode method_10_code 11 = .ok (.lastore, 1) := by decide +kernel
theorem d_Lw_pull_12 : decode method_10_code 12 = .ok (.goto 7, 3) := by decide +kernel
theorem d_Lw_pull_15 : decode method_10_code 15 = .ok (.astore 5, 2) := by decide +kernel
theorem d_Lw_pull_17 : decode method_10_code 17 = .ok (.iconst 1, 1) := by decide +kernel
theorem d_Lw_pull_18 : decode method_10_code 18 = .ok (.ireturn, 1) := by decide +kernel
theorem d_Lw_pull_19 : decode method_10_code 19 = .ok (.iconst 0, 1) := by decide +kernel
theorem d_Lw_pull_20 : decode method_10_code 20 = .ok (.ireturn, 1) := by decide +kernel
def y_Lw_call : MethodName := ⟨"PatchStoreLaw", "call", "(LPatchStore;II[J)I"⟩
abbrev c_Lw_call : Cond := (Jvm.Cond.codeWith ({ cls := "PatchStoreLaw", name := "call", desc := "(LPatchStore;II[J)I" } : Jvm.MethodName) method_6_code (5 : Nat) (Option.some Jvm.ClassFile.FieldType.int) [((0 : Nat), (10 : Nat), (13 : Nat), (25 : Nat)), ((0 : Nat), (10 : Nat), (17 : Nat), (19 : Nat)), ((0 : Nat), (10 : Nat), (21 : Nat), (13 : Nat))])
abbrev ws_Lw_call : List Cond := c_Lw_call :: xg_1
theorem d_Lw_call_0 : decode method_6_code 0 = .ok (.aload_n 3, 1) := by decide +kernel
theorem d_Lw_call_1 : decode method_6_code 1 = .ok (.iconst 0, 1) := by decide +kernel
theorem d_Lw_call_2 : decode method_6_code 2 = .ok (.aload_n 0, 1) := by decide +kernel
theorem d_Lw_call_3 : decode method_6_code 3 = .ok (.iload_n 1, 1) := by decide +kernel
theorem d_Lw_call_4 : decode method_6_code 4 = .ok (.iload_n 2, 1) := by decide +kernel
theorem d_Lw_call_5 : decode method_6_code 5 = .ok (.invokevirtual 27, 3) := by decide +kernel
theorem d_Lw_call_8 : decode method_6_code 8 = .ok (.i2l, 1) := by decide +kernel
theorem d_Lw_call_9 : decode method_6_code 9 = .ok (.lastore, 1) := by decide +kernel
theorem d_Lw_call_10 : decode method_6_code 10 = .ok (.goto 15, 3) := by decide +kernel
theorem d_Lw_call_13 : decode method_6_code 13 = .ok (.astore 4, 2) := by decide +kernel
theorem d_Lw_call_15 : decode method_6_code 15 = .ok (.iconst 1, 1) := by decide +kernel
theorem d_Lw_call_16 : decode method_6_code 16 = .ok (.ireturn, 1) := by decide +kernel
theorem d_Lw_call_17 : decode method_6_code 17 = .ok (.astore 4, 2) := by decide +kernel
theorem d_Lw_call_19 : decode method_6_code 19 = .ok (.iconst 2, 1) := by decide +kernel
theorem d_Lw_call_20 : decode method_6_code 20 = .ok (.ireturn, 1) := by decide +kernel
theorem d_Lw_call_21 : decode method_6_code 21 = .ok (.astore 4, 2) := by decide +kernel
theorem d_Lw_call_23 : decode method_6_code 23 = .ok (.iconst 3, 1) := by decide +kernel
theorem d_Lw_call_24 : decode method_6_code 24 = .ok (.ireturn, 1) := by decide +kernel
theorem d_Lw_call_25 : decode method_6_code 25 = .ok (.iconst 0, 1) := by decide +kernel
theorem d_Lw_call_26 : decode method_6_code 26 = .ok (.ireturn, 1) := by decide +kernel
def y_Lw_record : MethodName := ⟨"PatchStoreLaw", "record", "(LPatchStore;II[J)I"⟩
abbrev c_Lw_record : Cond := (Jvm.Cond.codeWith ({ cls := "PatchStoreLaw", name := "record", desc := "(LPatchStore;II[J)I" } : Jvm.MethodName) method_7_code (5 : Nat) (Option.some Jvm.ClassFile.FieldType.int) [((0 : Nat), (10 : Nat), (13 : Nat), (25 : Nat)), ((0 : Nat), (10 : Nat), (17 : Nat), (19 : Nat)), ((0 : Nat), (10 : Nat), (21 : Nat), (33 : Nat)), ((0 : Nat), (10 : Nat), (25 : Nat), (13 : Nat))])
abbrev ws_Lw_record : List Cond := c_Lw_record :: xg_1
theorem d_Lw_record_0 : decode method_7_code 0 = .ok (.aload_n 3, 1) := by decide +kernel
theorem d_Lw_record_1 : decode method_7_code 1 = .ok (.iconst 0, 1) := by decide +kernel
theorem d_Lw_record_2 : decode method_7_code 2 = .ok (.aload_n 0, 1) := by decide +kernel
theorem d_Lw_record_3 : decode method_7_code 3 = .ok (.iload_n 1, 1) := by decide +kernel
theorem d_Lw_record_4 : decode method_7_code 4 = .ok (.iload_n 2, 1) := by decide +kernel
theorem d_Lw_record_5 : decode method_7_code 5 = .ok (.invokevirtual 30, 3) := by decide +kernel
theorem d_Lw_record_8 : decode method_7_code 8 = .ok (.i2l, 1) := by decide +kernel
theorem d_Lw_record_9 : decode method_7_code 9 = .ok (.lastore, 1) := by decide +kernel
theorem d_Lw_record_10 : decode method_7_code 10 = .ok (.goto 19, 3) := by decide +kernel
theorem d_Lw_record_13 : decode method_7_code 13 = .ok (.astore 4, 2) := by decide +kernel
theorem d_Lw_record_15 : decode method_7_code 15 = .ok (.iconst 1, 1) := by decide +kernel
theorem d_Lw_record_16 : decode method_7_code 16 = .ok (.ireturn, 1) := by decide +kernel
theorem d_Lw_record_17 : decode method_7_code 17 = .ok (.astore 4, 2) := by decide +kernel
theorem d_Lw_record_19 : decode method_7_code 19 = .ok (.iconst 2, 1) := by decide +kernel
theorem d_Lw_record_20 : decode method_7_code 20 = .ok (.ireturn, 1) := by decide +kernel
theorem d_Lw_record_21 : decode method_7_code 21 = .ok (.astore 4, 2) := by decide +kernel
theorem d_Lw_record_23 : decode method_7_code 23 = .ok (.iconst 3, 1) := by decide +kernel
theorem d_Lw_record_24 : decode method_7_code 24 = .ok (.ireturn, 1) := by decide +kernel
theorem d_Lw_record_25 : decode method_7_code 25 = .ok (.astore 4, 2) := by decide +kernel
theorem d_Lw_record_27 : decode method_7_code 27 = .ok (.iconst 4, 1) := by decide +kernel
theorem d_Lw_record_28 : decode method_7_code 28 = .ok (.ireturn, 1) := by decide +kernel
theorem d_Lw_record_29 : decode method_7_code 29 = .ok (.iconst 0, 1) := by decide +kernel
theorem d_Lw_record_30 : decode method_7_code 30 = .ok (.ireturn, 1) := by decide +kernel
def y_Lw_file : MethodName := ⟨"PatchStoreLaw", "file", "(LPatchStore;III[J)I"⟩
abbrev c_Lw_file : Cond := (Jvm.Cond.codeWith ({ cls := "PatchStoreLaw", name := "file", desc := "(LPatchStore;III[J)I" } : Jvm.MethodName) method_16_code (6 : Nat) (Option.some Jvm.ClassFile.FieldType.int) [((0 : Nat), (12 : Nat), (15 : Nat), (25 : Nat)), ((0 : Nat), (12 : Nat), (19 : Nat), (19 : Nat))])
abbrev ws_Lw_file : List Cond := c_Lw_file :: xg_1
theorem d_Lw_file_0 : decode method_16_code 0 = .ok (.aload 4, 2) := by decide +kernel
theorem d_Lw_file_2 : decode method_16_code 2 = .ok (.iconst 0, 1) := by decide +kernel
theorem d_Lw_file_3 : decode method_16_code 3 = .ok (.aload_n 0, 1) := by decide +kernel
theorem d_Lw_file_4 : decode method_16_code 4 = .ok (.iload_n 1, 1) := by decide +kernel
theorem d_Lw_file_5 : decode method_16_code 5 = .ok (.iload_n 2, 1) := by decide +kernel
theorem d_Lw_file_6 : decode method_16_code 6 = .ok (.iload_n 3, 1) := by decide +kernel
theorem d_Lw_file_7 : decode method_16_code 7 = .ok (.invokevirtual 62, 3) := by decide +kernel
theorem d_Lw_file_10 : decode method_16_code 10 = .ok (.i2l, 1) := by decide +kernel
theorem d_Lw_file_11 : decode method_16_code 11 = .ok (.lastore, 1) := by decide +kernel
theorem d_Lw_file_12 : decode method_16_code 12 = .ok (.goto 11, 3) := by decide +kernel
theorem d_Lw_file_15 : decode method_16_code 15 = .ok (.astore 5, 2) := by decide +kernel
theorem d_Lw_file_17 : decode method_16_code 17 = .ok (.iconst 1, 1) := by decide +kernel
theorem d_Lw_file_18 : decode method_16_code 18 = .ok (.ireturn, 1) := by decide +kernel
theorem d_Lw_file_19 : decode method_16_code 19 = .ok (.astore 5, 2) := by decide +kernel
theorem d_Lw_file_21 : decode method_16_code 21 = .ok (.iconst 2, 1) := by decide +kernel
theorem d_Lw_file_22 : decode method_16_code 22 = .ok (.ireturn, 1) := by decide +kernel
theorem d_Lw_file_23 : decode method_16_code 23 = .ok (.iconst 0, 1) := by decide +kernel
theorem d_Lw_file_24 : decode method_16_code 24 = .ok (.ireturn, 1) := by decide +kernel
def y_Lw_name : MethodName := ⟨"PatchStoreLaw", "name", "(LPatchStore;IIII[J)I"⟩
abbrev c_Lw_name : Cond := (Jvm.Cond.codeWith ({ cls := "PatchStoreLaw", name := "name", desc := "(LPatchStore;IIII[J)I" } : Jvm.MethodName) method_17_code (7 : Nat) (Option.some Jvm.ClassFile.FieldType.int) [((0 : Nat), (14 : Nat), (17 : Nat), (25 : Nat)), ((0 : Nat), (14 : Nat), (21 : Nat), (54 : Nat))])
abbrev ws_Lw_name : List Cond := c_Lw_name :: xg_1
theorem d_Lw_name_0 : decode method_17_code 0 = .ok (.aload 5, 2) := by decide +kernel
theorem d_Lw_name_2 : decode method_17_code 2 = .ok (.iconst 0, 1) := by decide +kernel
theorem d_Lw_name_3 : decode method_17_code 3 = .ok (.aload_n 0, 1) := by decide +kernel
theorem d_Lw_name_4 : decode method_17_code 4 = .ok (.iload_n 1, 1) := by decide +kernel
theorem d_Lw_name_5 : decode method_17_code 5 = .ok (.iload_n 2, 1) := by decide +kernel
theorem d_Lw_name_6 : decode method_17_code 6 = .ok (.iload_n 3, 1) := by decide +kernel
theorem d_Lw_name_7 : decode method_17_code 7 = .ok (.iload 4, 2) := by decide +kernel
theorem d_Lw_name_9 : decode method_17_code 9 = .ok (.invokevirtual 65, 3) := by decide +kernel
theorem d_Lw_name_12 : decode method_17_code 12 = .ok (.i2l, 1) := by decide +kernel
theorem d_Lw_name_13 : decode method_17_code 13 = .ok (.lastore, 1) := by decide +kernel
theorem d_Lw_name_14 : decode method_17_code 14 = .ok (.goto 11, 3) := by decide +kernel
theorem d_Lw_name_17 : decode method_17_code 17 = .ok (.astore 6, 2) := by decide +kernel
theorem d_Lw_name_19 : decode method_17_code 19 = .ok (.iconst 1, 1) := by decide +kernel
theorem d_Lw_name_20 : decode method_17_code 20 = .ok (.ireturn, 1) := by decide +kernel
theorem d_Lw_name_21 : decode method_17_code 21 = .ok (.astore 6, 2) := by decide +kernel
theorem d_Lw_name_23 : decode method_17_code 23 = .ok (.iconst 2, 1) := by decide +kernel
theorem d_Lw_name_24 : decode method_17_code 24 = .ok (.ireturn, 1) := by decide +kernel
theorem d_Lw_name_25 : decode method_17_code 25 = .ok (.iconst 0, 1) := by decide +kernel
theorem d_Lw_name_26 : decode method_17_code 26 = .ok (.ireturn, 1) := by decide +kernel
def y_Lw_line : MethodName := ⟨"PatchStoreLaw", "line", "(LPatchStore;IIII[J)I"⟩
abbrev c_Lw_line : Cond := (Jvm.Cond.codeWith ({ cls := "PatchStoreLaw", name := "line", desc := "(LPatchStore;IIII[J)I" } : Jvm.MethodName) method_18_code (7 : Nat) (Option.some Jvm.ClassFile.FieldType.int) [((0 : Nat), (14 : Nat), (17 : Nat), (25 : Nat)), ((0 : Nat), (14 : Nat), (21 : Nat), (54 : Nat))])
abbrev ws_Lw_line : List Cond := c_Lw_line :: xg_1
theorem d_Lw_line_0 : decode method_18_code 0 = .ok (.aload 5, 2) := by decide +kernel
theorem d_Lw_line_2 : decode method_18_code 2 = .ok (.iconst 0, 1) := by decide +kernel
theorem d_Lw_line_3 : decode method_18_code 3 = .ok (.aload_n 0, 1) := by decide +kernel
theorem d_Lw_line_4 : decode method_18_code 4 = .ok (.iload_n 1, 1) := by decide +kernel
theorem d_Lw_line_5 : decode method_18_code 5 = .ok (.iload_n 2, 1) := by decide +kernel
theorem d_Lw_line_6 : decode method_18_code 6 = .ok (.iload_n 3, 1) := by decide +kernel
theorem d_Lw_line_7 : decode method_18_code 7 = .ok (.iload 4, 2) := by decide +kernel
theorem d_Lw_line_9 : decode method_18_code 9 = .ok (.invokevirtual 69, 3) := by decide +kernel
theorem d_Lw_line_12 : decode method_18_code 12 = .ok (.i2l, 1) := by decide +kernel
theorem d_Lw_line_13 : decode method_18_code 13 = .ok (.lastore, 1) := by decide +kernel
theorem d_Lw_line_14 : decode method_18_code 14 = .ok (.goto 11, 3) := by decide +kernel
theorem d_Lw_line_17 : decode method_18_code 17 = .ok (.astore 6, 2) := by decide +kernel
theorem d_Lw_line_19 : decode method_18_code 19 = .ok (.iconst 1, 1) := by decide +kernel
theorem d_Lw_line_20 : decode method_18_code 20 = .ok (.ireturn, 1) := by decide +kernel
theorem d_Lw_line_21 : decode method_18_code 21 = .ok (.astore 6, 2) := by decide +kernel
theorem d_Lw_line_23 : decode method_18_code 23 = .ok (.iconst 2, 1) := by decide +kernel
theorem d_Lw_line_24 : decode method_18_code 24 = .ok (.ireturn, 1) := by decide +kernel
theorem d_Lw_line_25 : decode method_18_code 25 = .ok (.iconst 0, 1) := by decide +kernel
theorem d_Lw_line_26 : decode method_18_code 26 = .ok (.ireturn, 1) := by decide +kernel
def y_Lw_show : MethodName := ⟨"PatchStoreLaw", "show", "(LPatchStore;I[J)I"⟩
abbrev c_Lw_show : Cond := (Jvm.Cond.codeWith ({ cls := "PatchStoreLaw", name := "show", desc := "(LPatchStore;I[J)I" } : Jvm.MethodName) method_9_code (4 : Nat) (Option.some Jvm.ClassFile.FieldType.int) [((0 : Nat), (9 : Nat), (12 : Nat), (25 : Nat)), ((0 : Nat), (9 : Nat), (15 : Nat), (33 : Nat))])
abbrev ws_Lw_show : List Cond := c_Lw_show :: xg_1
theorem d_Lw_show_0 : decode method_9_code 0 = .ok (.aload_n 2, 1) := by decide +kernel
theorem d_Lw_show_1 : decode method_9_code 1 = .ok (.iconst 0, 1) := by decide +kernel
theorem d_Lw_show_2 : decode method_9_code 2 = .ok (.aload_n 0, 1) := by decide +kernel
theorem d_Lw_show_3 : decode method_9_code 3 = .ok (.iload_n 1, 1) := by decide +kernel
theorem d_Lw_show_4 : decode method_9_code 4 = .ok (.invokevirtual 38, 3) := by decide +kernel
theorem d_Lw_show_7 : decode method_9_code 7 = .ok (.i2l, 1) := by decide +kernel
theorem d_Lw_show_8 : decode method_9_code 8 = .ok (.lastore, 1) := by decide +kernel
theorem d_Lw_show_9 : decode method_9_code 9 = .ok (.goto 9, 3) := by decide +kernel
theorem d_Lw_show_12 : decode method_9_code 12 = .ok (.astore_n 3, 1) := by decide +kernel
theorem d_Lw_show_13 : decode method_9_code 13 = .ok (.iconst 1, 1) := by decide +kernel
theorem d_Lw_show_14 : decode method_9_code 14 = .ok (.ireturn, 1) := by decide +kernel
theorem d_Lw_show_15 : decode method_9_code 15 = .ok (.astore_n 3, 1) := by decide +kernel
theorem d_Lw_show_16 : decode method_9_code 16 = .ok (.iconst 2, 1) := by decide +kernel
theorem d_Lw_show_17 : decode method_9_code 17 = .ok (.ireturn, 1) := by decide +kernel
theorem d_Lw_show_18 : decode method_9_code 18 = .ok (.iconst 0, 1) := by decide +kernel
theorem d_Lw_show_19 : decode method_9_code 19 = .ok (.ireturn, 1) := by decide +kernel
def y_Lw_hash : MethodName := ⟨"PatchStoreLaw", "hash", "(LPatchStore;II[J)I"⟩
abbrev c_Lw_hash : Cond := (Jvm.Cond.codeWith ({ cls := "PatchStoreLaw", name := "hash", desc := "(LPatchStore;II[J)I" } : Jvm.MethodName) method_13_code (5 : Nat) (Option.some Jvm.ClassFile.FieldType.int) [((0 : Nat), (10 : Nat), (13 : Nat), (25 : Nat)), ((0 : Nat), (10 : Nat), (17 : Nat), (54 : Nat))])
abbrev ws_Lw_hash : List Cond := c_Lw_hash :: xg_1
theorem d_Lw_hash_0 : decode method_13_code 0 = .ok (.aload_n 3, 1) := by decide +kernel
theorem d_Lw_hash_1 : decode method_13_code 1 = .ok (.iconst 0, 1) := by decide +kernel
theorem d_Lw_hash_2 : decode method_13_code 2 = .ok (.aload_n 0, 1) := by decide +kernel
theorem d_Lw_hash_3 : decode method_13_code 3 = .ok (.iload_n 1, 1) := by decide +kernel
theorem d_Lw_hash_4 : decode method_13_code 4 = .ok (.iload_n 2, 1) := by decide +kernel
theorem d_Lw_hash_5 : decode method_13_code 5 = .ok (.invokevirtual 51, 3) := by decide +kernel
theorem d_Lw_hash_8 : decode method_13_code 8 = .ok (.i2l, 1) := by decide +kernel
theorem d_Lw_hash_9 : decode method_13_code 9 = .ok (.lastore, 1) := by decide +kernel
theorem d_Lw_hash_10 : decode method_13_code 10 = .ok (.goto 11, 3) := by decide +kernel
theorem d_Lw_hash_13 : decode method_13_code 13 = .ok (.astore 4, 2) := by decide +kernel
theorem d_Lw_hash_15 : decode method_13_code 15 = .ok (.iconst 1, 1) := by decide +kernel
theorem d_Lw_hash_16 : decode method_13_code 16 = .ok (.ireturn, 1) := by decide +kernel
theorem d_Lw_hash_17 : decode method_13_code 17 = .ok (.astore 4, 2) := by decide +kernel
theorem d_Lw_hash_19 : decode method_13_code 19 = .ok (.iconst 2, 1) := by decide +kernel
theorem d_Lw_hash_20 : decode method_13_code 20 = .ok (.ireturn, 1) := by decide +kernel
theorem d_Lw_hash_21 : decode method_13_code 21 = .ok (.iconst 0, 1) := by decide +kernel
theorem d_Lw_hash_22 : decode method_13_code 22 = .ok (.ireturn, 1) := by decide +kernel
def y_Lw_has : MethodName := ⟨"PatchStoreLaw", "has", "(LPatchStore;III[J)I"⟩
abbrev c_Lw_has : Cond := (Jvm.Cond.codeWith ({ cls := "PatchStoreLaw", name := "has", desc := "(LPatchStore;III[J)I" } : Jvm.MethodName) method_12_code (6 : Nat) (Option.some Jvm.ClassFile.FieldType.int) [((0 : Nat), (12 : Nat), (15 : Nat), (25 : Nat)), ((0 : Nat), (12 : Nat), (19 : Nat), (19 : Nat))])
abbrev ws_Lw_has : List Cond := c_Lw_has :: xg_1
theorem d_Lw_has_0 : decode method_12_code 0 = .ok (.aload 4, 2) := by decide +kernel
theorem d_Lw_has_2 : decode method_12_code 2 = .ok (.iconst 0, 1) := by decide +kernel
theorem d_Lw_has_3 : decode method_12_code 3 = .ok (.aload_n 0, 1) := by decide +kernel
theorem d_Lw_has_4 : decode method_12_code 4 = .ok (.iload_n 1, 1) := by decide +kernel
theorem d_Lw_has_5 : decode method_12_code 5 = .ok (.iload_n 2, 1) := by decide +kernel
theorem d_Lw_has_6 : decode method_12_code 6 = .ok (.iload_n 3, 1) := by decide +kernel
theorem d_Lw_has_7 : decode method_12_code 7 = .ok (.invokevirtual 48, 3) := by decide +kernel
theorem d_Lw_has_10 : decode method_12_code 10 = .ok (.i2l, 1) := by decide +kernel
theorem d_Lw_has_11 : decode method_12_code 11 = .ok (.lastore, 1) := by decide +kernel
theorem d_Lw_has_12 : decode method_12_code 12 = .ok (.goto 11, 3) := by decide +kernel
theorem d_Lw_has_15 : decode method_12_code 15 = .ok (.astore 5, 2) := by decide +kernel
theorem d_Lw_has_17 : decode method_12_code 17 = .ok (.iconst 1, 1) := by decide +kernel
theorem d_Lw_has_18 : decode method_12_code 18 = .ok (.ireturn, 1) := by decide +kernel
theorem d_Lw_has_19 : decode method_12_code 19 = .ok (.astore 5, 2) := by decide +kernel
theorem d_Lw_has_21 : decode method_12_code 21 = .ok (.iconst 2, 1) := by decide +kernel
theorem d_Lw_has_22 : decode method_12_code 22 = .ok (.ireturn, 1) := by decide +kernel
theorem d_Lw_has_23 : decode method_12_code 23 = .ok (.iconst 0, 1) := by decide +kernel
theorem d_Lw_has_24 : decode method_12_code 24 = .ok (.ireturn, 1) := by decide +kernel
def y_Lw_drop : MethodName := ⟨"PatchStoreLaw", "drop", "(LPatchStore;II[J)I"⟩
abbrev c_Lw_drop : Cond := (Jvm.Cond.codeWith ({ cls := "PatchStoreLaw", name := "drop", desc := "(LPatchStore;II[J)I" } : Jvm.MethodName) method_11_code (5 : Nat) (Option.some Jvm.ClassFile.FieldType.int) [((0 : Nat), (10 : Nat), (13 : Nat), (25 : Nat)), ((0 : Nat), (10 : Nat), (17 : Nat), (13 : Nat))])
abbrev ws_Lw_drop : List Cond := c_Lw_drop :: xg_1
theorem d_Lw_drop_0 : decode method_11_code 0 = .ok (.aload_n 3, 1) := by decide +kernel
theorem d_Lw_drop_1 : decode method_11_code 1 = .ok (.iconst 0, 1) := by decide +kernel
theorem d_Lw_drop_2 : decode method_11_code 2 = .ok (.aload_n 0, 1) := by decide +kernel
theorem d_Lw_drop_3 : decode method_11_code 3 = .ok (.iload_n 1, 1) := by decide +kernel
theorem d_Lw_drop_4 : decode method_11_code 4 = .ok (.iload_n 2, 1) := by decide +kernel
theorem d_Lw_drop_5 : decode method_11_code 5 = .ok (.invokevirtual 45, 3) := by decide +kernel
theorem d_Lw_drop_8 : decode method_11_code 8 = .ok (.i2l, 1) := by decide +kernel
theorem d_Lw_drop_9 : decode method_11_code 9 = .ok (.lastore, 1) := by decide +kernel
theorem d_Lw_drop_10 : decode method_11_code 10 = .ok (.goto 11, 3) := by decide +kernel
theorem d_Lw_drop_13 : decode method_11_code 13 = .ok (.astore 4, 2) := by decide +kernel
theorem d_Lw_drop_15 : decode method_11_code 15 = .ok (.iconst 1, 1) := by decide +kernel
theorem d_Lw_drop_16 : decode method_11_code 16 = .ok (.ireturn, 1) := by decide +kernel
theorem d_Lw_drop_17 : decode method_11_code 17 = .ok (.astore 4, 2) := by decide +kernel
theorem d_Lw_drop_19 : decode method_11_code 19 = .ok (.iconst 2, 1) := by decide +kernel
theorem d_Lw_drop_20 : decode method_11_code 20 = .ok (.ireturn, 1) := by decide +kernel
theorem d_Lw_drop_21 : decode method_11_code 21 = .ok (.iconst 0, 1) := by decide +kernel
theorem d_Lw_drop_22 : decode method_11_code 22 = .ok (.ireturn, 1) := by decide +kernel
def y_Lw_add : MethodName := ⟨"PatchStoreLaw", "add", "(LPatchStore;II[J)I"⟩
abbrev c_Lw_add : Cond := (Jvm.Cond.codeWith ({ cls := "PatchStoreLaw", name := "add", desc := "(LPatchStore;II[J)I" } : Jvm.MethodName) method_5_code (5 : Nat) (Option.some Jvm.ClassFile.FieldType.int) [((0 : Nat), (10 : Nat), (13 : Nat), (25 : Nat)), ((0 : Nat), (10 : Nat), (17 : Nat), (19 : Nat)), ((0 : Nat), (10 : Nat), (21 : Nat), (13 : Nat))])
abbrev ws_Lw_add : List Cond := c_Lw_add :: xg_1
theorem d_Lw_add_0 : decode method_5_code 0 = .ok (.aload_n 3, 1) := by decide +kernel
theorem d_Lw_add_1 : decode method_5_code 1 = .ok (.iconst 0, 1) := by decide +kernel
theorem d_Lw_add_2 : decode method_5_code 2 = .ok (.aload_n 0, 1) := by decide +kernel
theorem d_Lw_add_3 : decode method_5_code 3 = .ok (.iload_n 1, 1) := by decide +kernel
theorem d_Lw_add_4 : decode method_5_code 4 = .ok (.iload_n 2, 1) := by decide +kernel
theorem d_Lw_add_5 : decode method_5_code 5 = .ok (.invokevirtual 21, 3) := by decide +kernel
theorem d_Lw_add_8 : decode method_5_code 8 = .ok (.i2l, 1) := by decide +kernel
theorem d_Lw_add_9 : decode method_5_code 9 = .ok (.lastore, 1) := by decide +kernel
theorem d_Lw_add_10 : decode method_5_code 10 = .ok (.goto 15, 3) := by decide +kernel
theorem d_Lw_add_13 : decode method_5_code 13 = .ok (.astore 4, 2) := by decide +kernel
theorem d_Lw_add_15 : decode method_5_code 15 = .ok (.iconst 1, 1) := by decide +kernel
theorem d_Lw_add_16 : decode method_5_code 16 = .ok (.ireturn, 1) := by decide +kernel
theorem d_Lw_add_17 : decode method_5_code 17 = .ok (.astore 4, 2) := by decide +kernel
theorem d_Lw_add_19 : decode method_5_code 19 = .ok (.iconst 2, 1) := by decide +kernel
theorem d_Lw_add_20 : decode method_5_code 20 = .ok (.ireturn, 1) := by decide +kernel
theorem d_Lw_add_21 : decode method_5_code 21 = .ok (.astore 4, 2) := by decide +kernel
theorem d_Lw_add_23 : decode method_5_code 23 = .ok (.iconst 3, 1) := by decide +kernel
theorem d_Lw_add_24 : decode method_5_code 24 = .ok (.ireturn, 1) := by decide +kernel
theorem d_Lw_add_25 : decode method_5_code 25 = .ok (.iconst 0, 1) := by decide +kernel
theorem d_Lw_add_26 : decode method_5_code 26 = .ok (.ireturn, 1) := by decide +kernel
def y_Lw_read : MethodName := ⟨"PatchStoreLaw", "read", "(LPatchStore;I[J)I"⟩
abbrev c_Lw_read : Cond := (Jvm.Cond.codeWith ({ cls := "PatchStoreLaw", name := "read", desc := "(LPatchStore;I[J)I" } : Jvm.MethodName) method_8_code (4 : Nat) (Option.some Jvm.ClassFile.FieldType.int) [((0 : Nat), (9 : Nat), (12 : Nat), (25 : Nat)), ((0 : Nat), (9 : Nat), (15 : Nat), (19 : Nat)), ((0 : Nat), (9 : Nat), (18 : Nat), (13 : Nat))])
abbrev ws_Lw_read : List Cond := c_Lw_read :: xg_1
theorem d_Lw_read_0 : decode method_8_code 0 = .ok (.aload_n 2, 1) := by decide +kernel
theorem d_Lw_read_1 : decode method_8_code 1 = .ok (.iconst 0, 1) := by decide +kernel
theorem d_Lw_read_2 : decode method_8_code 2 = .ok (.aload_n 0, 1) := by decide +kernel
theorem d_Lw_read_3 : decode method_8_code 3 = .ok (.iload_n 1, 1) := by decide +kernel
theorem d_Lw_read_4 : decode method_8_code 4 = .ok (.invokevirtual 35, 3) := by decide +kernel
theorem d_Lw_read_7 : decode method_8_code 7 = .ok (.i2l, 1) := by decide +kernel
theorem d_Lw_read_8 : decode method_8_code 8 = .ok (.lastore, 1) := by decide +kernel
theorem d_Lw_read_9 : decode method_8_code 9 = .ok (.goto 12, 3) := by decide +kernel
theorem d_Lw_read_12 : decode method_8_code 12 = .ok (.astore_n 3, 1) := by decide +kernel
theorem d_Lw_read_13 : decode method_8_code 13 = .ok (.iconst 1, 1) := by decide +kernel
theorem d_Lw_read_14 : decode method_8_code 14 = .ok (.ireturn, 1) := by decide +kernel
theorem d_Lw_read_15 : decode method_8_code 15 = .ok (.astore_n 3, 1) := by decide +kernel
theorem d_Lw_read_16 : decode method_8_code 16 = .ok (.iconst 2, 1) := by decide +kernel
theorem d_Lw_read_17 : decode method_8_code 17 = .ok (.ireturn, 1) := by decide +kernel
theorem d_Lw_read_18 : decode method_8_code 18 = .ok (.astore_n 3, 1) := by decide +kernel
theorem d_Lw_read_19 : decode method_8_code 19 = .ok (.iconst 3, 1) := by decide +kernel
theorem d_Lw_read_20 : decode method_8_code 20 = .ok (.ireturn, 1) := by decide +kernel
theorem d_Lw_read_21 : decode method_8_code 21 = .ok (.iconst 0, 1) := by decide +kernel
theorem d_Lw_read_22 : decode method_8_code 22 = .ok (.ireturn, 1) := by decide +kernel
def y_Lw_state : MethodName := ⟨"PatchStoreLaw", "state", "(LPatchStore;II[J)I"⟩
abbrev c_Lw_state : Cond := (Jvm.Cond.codeWith ({ cls := "PatchStoreLaw", name := "state", desc := "(LPatchStore;II[J)I" } : Jvm.MethodName) method_14_code (5 : Nat) (Option.some Jvm.ClassFile.FieldType.int) [((0 : Nat), (10 : Nat), (13 : Nat), (25 : Nat)), ((0 : Nat), (10 : Nat), (17 : Nat), (54 : Nat))])
abbrev ws_Lw_state : List Cond := c_Lw_state :: xg_1
theorem d_Lw_state_0 : decode method_14_code 0 = .ok (.aload_n 3, 1) := by decide +kernel
theorem d_Lw_state_1 : decode method_14_code 1 = .ok (.iconst 0, 1) := by decide +kernel
theorem d_Lw_state_2 : decode method_14_code 2 = .ok (.aload_n 0, 1) := by decide +kernel
theorem d_Lw_state_3 : decode method_14_code 3 = .ok (.iload_n 1, 1) := by decide +kernel
theorem d_Lw_state_4 : decode method_14_code 4 = .ok (.iload_n 2, 1) := by decide +kernel
theorem d_Lw_state_5 : decode method_14_code 5 = .ok (.invokevirtual 56, 3) := by decide +kernel
theorem d_Lw_state_8 : decode method_14_code 8 = .ok (.i2l, 1) := by decide +kernel
theorem d_Lw_state_9 : decode method_14_code 9 = .ok (.lastore, 1) := by decide +kernel
theorem d_Lw_state_10 : decode method_14_code 10 = .ok (.goto 11, 3) := by decide +kernel
theorem d_Lw_state_13 : decode method_14_code 13 = .ok (.astore 4, 2) := by decide +kernel
theorem d_Lw_state_15 : decode method_14_code 15 = .ok (.iconst 1, 1) := by decide +kernel
theorem d_Lw_state_16 : decode method_14_code 16 = .ok (.ireturn, 1) := by decide +kernel
theorem d_Lw_state_17 : decode method_14_code 17 = .ok (.astore 4, 2) := by decide +kernel
theorem d_Lw_state_19 : decode method_14_code 19 = .ok (.iconst 2, 1) := by decide +kernel
theorem d_Lw_state_20 : decode method_14_code 20 = .ok (.ireturn, 1) := by decide +kernel
theorem d_Lw_state_21 : decode method_14_code 21 = .ok (.iconst 0, 1) := by decide +kernel
theorem d_Lw_state_22 : decode method_14_code 22 = .ok (.ireturn, 1) := by decide +kernel
def y_Lw_about : MethodName := ⟨"PatchStoreLaw", "about", "(LPatchStore;II[J)I"⟩
abbrev c_Lw_about : Cond := (Jvm.Cond.codeWith ({ cls := "PatchStoreLaw", name := "about", desc := "(LPatchStore;II[J)I" } : Jvm.MethodName) method_15_code (5 : Nat) (Option.some Jvm.ClassFile.FieldType.int) [((0 : Nat), (10 : Nat), (13 : Nat), (25 : Nat)), ((0 : Nat), (10 : Nat), (17 : Nat), (19 : Nat))])
abbrev ws_Lw_about : List Cond := c_Lw_about :: xg_1
theorem d_Lw_about_0 : decode method_15_code 0 = .ok (.aload_n 3, 1) := by decide +kernel
theorem d_Lw_about_1 : decode method_15_code 1 = .ok (.iconst 0, 1) := by decide +kernel
theorem d_Lw_about_2 : decode method_15_code 2 = .ok (.aload_n 0, 1) := by decide +kernel
theorem d_Lw_about_3 : decode method_15_code 3 = .ok (.iload_n 1, 1) := by decide +kernel
theorem d_Lw_about_4 : decode method_15_code 4 = .ok (.iload_n 2, 1) := by decide +kernel
theorem d_Lw_about_5 : decode method_15_code 5 = .ok (.invokevirtual 59, 3) := by decide +kernel
theorem d_Lw_about_8 : decode method_15_code 8 = .ok (.i2l, 1) := by decide +kernel
theorem d_Lw_about_9 : decode method_15_code 9 = .ok (.lastore, 1) := by decide +kernel
theorem d_Lw_about_10 : decode method_15_code 10 = .ok (.goto 11, 3) := by decide +kernel
theorem d_Lw_about_13 : decode method_15_code 13 = .ok (.astore 4, 2) := by decide +kernel
theorem d_Lw_about_15 : decode method_15_code 15 = .ok (.iconst 1, 1) := by decide +kernel
theorem d_Lw_about_16 : decode method_15_code 16 = .ok (.ireturn, 1) := by decide +kernel
theorem d_Lw_about_17 : decode method_15_code 17 = .ok (.astore 4, 2) := by decide +kernel
theorem d_Lw_about_19 : decode method_15_code 19 = .ok (.iconst 2, 1) := by decide +kernel
theorem d_Lw_about_20 : decode method_15_code 20 = .ok (.ireturn, 1) := by decide +kernel
theorem d_Lw_about_21 : decode method_15_code 21 = .ok (.iconst 0, 1) := by decide +kernel
theorem d_Lw_about_22 : decode method_15_code 22 = .ok (.ireturn, 1) := by decide +kernel
def y_Lw_feed : MethodName := ⟨"PatchStoreLaw", "feed", "(LPatchStore;IIIII[J)I"⟩
abbrev c_Lw_feed : Cond := (Jvm.Cond.codeWith ({ cls := "PatchStoreLaw", name := "feed", desc := "(LPatchStore;IIIII[J)I" } : Jvm.MethodName) method_3_code (8 : Nat) (Option.some Jvm.ClassFile.FieldType.int) [((0 : Nat), (16 : Nat), (19 : Nat), (13 : Nat))])
abbrev ws_Lw_feed : List Cond := c_Lw_feed :: xg_1
theorem d_Lw_feed_0 : decode method_3_code 0 = .ok (.aload 6, 2) := by decide +kernel
theorem d_Lw_feed_2 : decode method_3_code 2 = .ok (.iconst 0, 1) := by decide +kernel
theorem d_Lw_feed_3 : decode method_3_code 3 = .ok (.aload_n 0, 1) := by decide +kernel
theorem d_Lw_feed_4 : decode method_3_code 4 = .ok (.iload_n 1, 1) := by decide +kernel
theorem d_Lw_feed_5 : decode method_3_code 5 = .ok (.iload_n 2, 1) := by decide +kernel
theorem d_Lw_feed_6 : decode method_3_code 6 = .ok (.iload_n 3, 1) := by decide +kernel
theorem d_Lw_feed_7 : decode method_3_code 7 = .ok (.iload 4, 2) := by decide +kernel
theorem d_Lw_feed_9 : decode method_3_code 9 = .ok (.iload 5, 2) := by decide +kernel
theorem d_Lw_feed_11 : decode method_3_code 11 = .ok (.invokevirtual 7, 3) := by decide +kernel
theorem d_Lw_feed_14 : decode method_3_code 14 = .ok (.i2l, 1) := by decide +kernel
theorem d_Lw_feed_15 : decode method_3_code 15 = .ok (.lastore, 1) := by decide +kernel
theorem d_Lw_feed_16 : decode method_3_code 16 = .ok (.goto 7, 3) := by decide +kernel
theorem d_Lw_feed_19 : decode method_3_code 19 = .ok (.astore 7, 2) := by decide +kernel
theorem d_Lw_feed_21 : decode method_3_code 21 = .ok (.iconst 1, 1) := by decide +kernel
theorem d_Lw_feed_22 : decode method_3_code 22 = .ok (.ireturn, 1) := by decide +kernel
theorem d_Lw_feed_23 : decode method_3_code 23 = .ok (.iconst 0, 1) := by decide +kernel
theorem d_Lw_feed_24 : decode method_3_code 24 = .ok (.ireturn, 1) := by decide +kernel
def y_Lw_end : MethodName := ⟨"PatchStoreLaw", "end", "(LPatchStore;I[J)I"⟩
abbrev c_Lw_end : Cond := (Jvm.Cond.codeWith ({ cls := "PatchStoreLaw", name := "end", desc := "(LPatchStore;I[J)I" } : Jvm.MethodName) method_4_code (4 : Nat) (Option.some Jvm.ClassFile.FieldType.int) [((0 : Nat), (9 : Nat), (12 : Nat), (19 : Nat))])
abbrev ws_Lw_end : List Cond := c_Lw_end :: xg_1
theorem d_Lw_end_0 : decode method_4_code 0 = .ok (.aload_n 2, 1) := by decide +kernel
theorem d_Lw_end_1 : decode method_4_code 1 = .ok (.iconst 0, 1) := by decide +kernel
theorem d_Lw_end_2 : decode method_4_code 2 = .ok (.aload_n 0, 1) := by decide +kernel
theorem d_Lw_end_3 : decode method_4_code 3 = .ok (.iload_n 1, 1) := by decide +kernel
theorem d_Lw_end_4 : decode method_4_code 4 = .ok (.invokevirtual 15, 3) := by decide +kernel
theorem d_Lw_end_7 : decode method_4_code 7 = .ok (.i2l, 1) := by decide +kernel
theorem d_Lw_end_8 : decode method_4_code 8 = .ok (.lastore, 1) := by decide +kernel
theorem d_Lw_end_9 : decode method_4_code 9 = .ok (.goto 6, 3) := by decide +kernel
theorem d_Lw_end_12 : decode method_4_code 12 = .ok (.astore_n 3, 1) := by decide +kernel
theorem d_Lw_end_13 : decode method_4_code 13 = .ok (.iconst 1, 1) := by decide +kernel
theorem d_Lw_end_14 : decode method_4_code 14 = .ok (.ireturn, 1) := by decide +kernel
theorem d_Lw_end_15 : decode method_4_code 15 = .ok (.iconst 0, 1) := by decide +kernel
theorem d_Lw_end_16 : decode method_4_code 16 = .ok (.ireturn, 1) := by decide +kernel
/-- which exceptions no other catch takes -/
def xn_L : List (String × String) := [("java/util/NoSuchElementException", "java/lang/IllegalArgumentException"), ("java/util/NoSuchElementException", "java/lang/IllegalStateException"), ("java/util/NoSuchElementException", "java/lang/UnsupportedOperationException"), ("java/util/NoSuchElementException", "java/lang/IndexOutOfBoundsException"), ("java/lang/IllegalArgumentException", "java/util/NoSuchElementException"), ("java/lang/IllegalArgumentException", "java/lang/IllegalStateException"), ("java/lang/IllegalArgumentException", "java/lang/UnsupportedOperationException"), ("java/lang/IllegalArgumentException", "java/lang/IndexOutOfBoundsException"), ("java/lang/IllegalStateException", "java/util/NoSuchElementException"), ("java/lang/IllegalStateException", "java/lang/IllegalArgumentException"), ("java/lang/IllegalStateException", "java/lang/UnsupportedOperationException"), ("java/lang/IllegalStateException", "java/lang/IndexOutOfBoundsException"), ("java/lang/UnsupportedOperationException", "java/util/NoSuchElementException"), ("java/lang/UnsupportedOperationException", "java/lang/IllegalArgumentException"), ("java/lang/UnsupportedOperationException", "java/lang/IllegalStateException"), ("java/lang/UnsupportedOperationException", "java/lang/IndexOutOfBoundsException"), ("java/lang/IndexOutOfBoundsException", "java/util/NoSuchElementException"), ("java/lang/IndexOutOfBoundsException", "java/lang/IllegalArgumentException"), ("java/lang/IndexOutOfBoundsException", "java/lang/IllegalStateException"), ("java/lang/IndexOutOfBoundsException", "java/lang/UnsupportedOperationException")]
def xn (U : State) : Prop := ∀ q : String × String, q ∈ xn_L → va_Nc q.1 q.2 U
theorem xn.moved {u U : State} (hvm : u.vm.Alike U.vm) (h : xn u) : xn U := fun q hq => (h q hq).moved hvm
abbrev xw_Pl (dC : Nat → ClassId) (dI : Nat → Nat → Nat) (ty : List (ClassId × FieldType)) (av : List Value) (ws : va_W) (sz : Nat) : Array Value → State → Prop := va_Pc av (fun U => U.heap.size = sz ∧ va_P (dC, dI) classes ws U.heap ∧ va_K (dC, dI) classes ty U ∧ va_D (fun _ => True) ws ∧ xg_N U ∧ xe (va_A ws sz) U U.heap ∧ xn U)
theorem xw_blindl {dC : Nat → ClassId} {dI : Nat → Nat → Nat} {ty : List (ClassId × FieldType)} {av : List Value} {ws : va_W} {sz : Nat} : FrameBlind (xw_Pl dC dI ty av ws sz) := fun a U g mk q => by
  obtain ⟨q0, q1, qP, qK, qD, qN, qE, qn⟩ := q
  have hb := xw_blindx (dC := dC) (dI := dI) (ty := ty) (av := av) (ws := ws) (sz := sz) a U g mk ⟨q0, q1, qP, qK, qD, qN, qE⟩
  obtain ⟨r0, r1, rP, rK, rD, rN, rE⟩ := hb
  exact ⟨r0, r1, rP, rK, rD, rN, rE, qn.moved (u := U) (U := U.calling g mk a) (Vm.Alike.refl U.vm)⟩
end
section
/-! what holds at the law's start: the classes, the tables of constants, what no catch takes -/
theorem gw_38 : (Jvm.Cond.instantiable "PatchStore" (11 : Nat)) ∈ xg_1 := xg_s1 38 rfl rfl
theorem gw_1368 : (Jvm.Cond.instantiable "PatchStoreModel" (83 : Nat)) ∈ xg_1 := xg_s6 168 rfl rfl
theorem xk_arr {args : Array Value} {s : State} {ty : FieldType} (h : (Cond.arrayClass ty).before args s = true) (hra : ∀ c : ClassId, s.vm.findClass ("[" ++ ty.toString) = some c → va_RA s c ty) : ∃ c : ClassId, ArrOfT s c ty ∧ va_RA s c ty := by
  obtain ⟨c, k, comp, h1, h2, h3⟩ := Cond.arrayClass_spec h
  exact ⟨c, fun N z => ⟨fun k h => (by cases h), k, h2, comp, h3⟩, hra c h1⟩
theorem xk_obj {s : State} {n : String} (h : xa_T (.object n) s) : ∃ c : ClassId, ArrOfT s c (.object n) ∧ va_RA s c (.object n) := by
  obtain ⟨comp, c, k, h1, -, h2, h3, h4⟩ := Cond.arrayOver_spec h
  exact ⟨c, fun N z => ⟨fun k h => (by cases h), k, h2, comp, h3⟩, k, comp, h2, h3, h1, h4⟩
theorem xk_start {args : Array Value} {s : State} (hts : ∀ w ∈ xg_1, w.before args s = true) (hov : xa_T (.object "PatchStore$Repository") s) : ∃ (dC : Nat → ClassId) (dI : Nat → Nat → Nat) (cI cB cL cZ cR : ClassId), va_K (dC, dI) classes [(cI, .int), (cB, .byte), (cL, .long), (cZ, .boolean), (cR, .object "PatchStore$Repository")] s := by
  obtain ⟨c0, i0, hk0⟩ := u_known (C := R_PS) (T := F_PS) (N := 11) (n := 11) hts i_PS (hts _ gw_38)
  obtain ⟨c1, i1, hk1⟩ := u_known (C := R_Ch) (T := F_Ch) (N := 6) (n := 6) hts i_Ch (hts _ gw_80)
  obtain ⟨c2, i2, hk2⟩ := u_known (C := R_Fo) (T := F_Fo) (N := 1) (n := 1) hts i_Fo (hts _ gw_275)
  obtain ⟨c3, i3, hk3⟩ := u_known (C := R_In) (T := F_In) (N := 9) (n := 9) hts i_In (hts _ gw_269)
  obtain ⟨c4, i4, hk4⟩ := u_known (C := R_Li) (T := F_Li) (N := 8) (n := 8) hts i_Li (hts _ gw_129)
  obtain ⟨c5, i5, hk5⟩ := u_known (C := R_Mk) (T := F_Mk) (N := 5) (n := 5) hts i_Mk (hts _ gw_441)
  obtain ⟨c6, i6, hk6⟩ := u_known (C := R_Rc) (T := F_Rc) (N := 17) (n := 17) hts i_Rc (hts _ gw_463)
  obtain ⟨c7, i7, hk7⟩ := u_known (C := R_Re) (T := F_Re) (N := 5) (n := 5) hts i_Re (hts _ gw_522)
  obtain ⟨c8, i8, hk8⟩ := u_known (C := R_Sh) (T := F_Sh) (N := 5) (n := 5) hts i_Sh (hts _ gw_49)
  obtain ⟨c9, i9, hk9⟩ := u_known (C := R_St) (T := F_St) (N := 12) (n := 12) hts i_St (hts _ gw_73)
  obtain ⟨c10, i10, hk10⟩ := u_known (C := R_Tx) (T := F_Tx) (N := 19) (n := 19) hts i_Tx (hts _ gw_369)
  obtain ⟨c11, i11, hk11⟩ := u_known (C := R_Vw) (T := F_Vw) (N := 14) (n := 14) hts i_Vw (hts _ gw_313)
  obtain ⟨c12, i12, hk12⟩ := u_known (C := R_Md) (T := F_Md) (N := 83) (n := 83) hts i_Md (hts _ gw_1368)
  obtain ⟨c13, i13, hk13⟩ := u_known (C := R_MS) (T := F_MS) (N := 8) (n := 8) hts i_MS (hts _ gw_1382)
  obtain ⟨cI, haI⟩ := xk_arr (hts _ gw_71) (fun _ h => h)
  obtain ⟨cB, haB⟩ := xk_arr (hts _ gw_70) (fun _ h => h)
  obtain ⟨cL, haL⟩ := xk_arr (hts _ gw_127) (fun _ h => h)
  obtain ⟨cZ, haZ⟩ := xk_arr (hts _ gw_1415) (fun _ h => h)
  obtain ⟨cR, haR⟩ := xk_obj hov
  refine ⟨fun k => if k = 0 then c0 else if k = 1 then c1 else if k = 2 then c2 else if k = 3 then c3 else if k = 4 then c4 else if k = 5 then c5 else if k = 6 then c6 else if k = 7 then c7 else if k = 8 then c8 else if k = 9 then c9 else if k = 10 then c10 else if k = 11 then c11 else if k = 12 then c12 else c13, fun k => if k = 0 then i0 else if k = 1 then i1 else if k = 2 then i2 else if k = 3 then i3 else if k = 4 then i4 else if k = 5 then i5 else if k = 6 then i6 else if k = 7 then i7 else if k = 8 then i8 else if k = 9 then i9 else if k = 10 then i10 else if k = 11 then i11 else if k = 12 then i12 else i13, cI, cB, cL, cZ, cR, ?_, ?_⟩
  · intro k q hq
    match k, hq with
    | 0, hq => cases hq; exact hk0
    | 1, hq => cases hq; exact hk1
    | 2, hq => cases hq; exact hk2
    | 3, hq => cases hq; exact hk3
    | 4, hq => cases hq; exact hk4
    | 5, hq => cases hq; exact hk5
    | 6, hq => cases hq; exact hk6
    | 7, hq => cases hq; exact hk7
    | 8, hq => cases hq; exact hk8
    | 9, hq => cases hq; exact hk9
    | 10, hq => cases hq; exact hk10
    | 11, hq => cases hq; exact hk11
    | 12, hq => cases hq; exact hk12
    | 13, hq => cases hq; exact hk13
    | k + 14, hq => simp [classes] at hq
  · intro k q hq
    match k, hq with
    | 0, hq => cases hq; exact haI
    | 1, hq => cases hq; exact haB
    | 2, hq => cases hq; exact haL
    | 3, hq => cases hq; exact haZ
    | 4, hq => cases hq; exact haR
    | k + 5, hq => simp at hq
theorem xg_start {b : Addr} {s : State} (hts : ∀ w ∈ lw_tbl, w.before #[Value.ref b] s = true) : (∀ w ∈ xg_1, w.before #[Value.ref b] s = true) ∧ xg_N s := ⟨fun w h => hts w (List.mem_filter.mp h).1, fun w h => va_tabs (xg_on (List.mem_filter.mp h).2) rfl (hts w (List.mem_filter.mp h).1)⟩
theorem xa_start {b : Addr} {s : State} (hts : ∀ w ∈ lw_tbl, w.before #[Value.ref b] s = true) : xa s := ⟨hts _ (List.mem_append_right _ (show ((Jvm.Cond.arrayOver (Jvm.ClassFile.FieldType.object "PatchStore$Repository")) : Cond) ∈ tables_1 from (List.mem_append_left _ (List.mem_of_getElem? (i := 47) rfl)))), hts _ (List.mem_append_right _ (show ((Jvm.Cond.arrayOver (Jvm.ClassFile.FieldType.array Jvm.ClassFile.FieldType.byte)) : Cond) ∈ tables_1 from (List.mem_append_right _ (List.mem_append_right _ (List.mem_append_right _ (List.mem_append_right _ (List.mem_append_right _ (List.mem_append_left _ (List.mem_of_getElem? (i := 176) rfl))))))))), hts _ (List.mem_append_right _ (show ((Jvm.Cond.arrayOver (Jvm.ClassFile.FieldType.array Jvm.ClassFile.FieldType.boolean)) : Cond) ∈ tables_1 from (List.mem_append_right _ (List.mem_append_right _ (List.mem_append_right _ (List.mem_append_right _ (List.mem_append_right _ (List.mem_append_left _ (List.mem_of_getElem? (i := 180) rfl))))))))), hts _ (List.mem_append_right _ (show ((Jvm.Cond.arrayOver (Jvm.ClassFile.FieldType.array Jvm.ClassFile.FieldType.int)) : Cond) ∈ tables_1 from (List.mem_append_right _ (List.mem_append_right _ (List.mem_append_right _ (List.mem_append_right _ (List.mem_append_right _ (List.mem_append_left _ (List.mem_of_getElem? (i := 217) rfl)))))))))⟩
theorem xs_START_mem : ∀ j, j < 8 → (Cond.eq (.elem (Term.static "PatchStore$Sha256" "START" "[I") (.int (Int32.ofNat j))) (.int (sh_START j))) ∈ flatC narrow_1 := by decide +kernel
theorem xs_START_start {b : Addr} {s : State} {A : Nat → Prop} (hts : ∀ w ∈ lw_tbl, w.before #[Value.ref b] s = true) (hf : ∀ w ∈ flatC narrow_1, w.before #[Value.ref b] s = true) (hA : ∀ a : Nat, a < s.heap.size → ¬ A a) : xs_I "PatchStore$Sha256" "START" 8 sh_START A s s.heap := by
  obtain ⟨t, ht, hT⟩ := va_Tof (args := #[Value.ref b]) (tm := (Term.static "PatchStore$Sha256" "START" "[I")) (ty := .int) (N := 8) (f := fun j => .int (sh_START j)) (A := A) (by decide) (hf _ (by decide +kernel)) (va_eqt (hf (Cond.eq (.length (Term.static "PatchStore$Sha256" "START" "[I")) (.int 8)) (by decide +kernel))) (fun j hj => va_eqt (hf _ (xs_START_mem j hj))) hA
  exact ⟨t, va_Zof (hts _ (List.mem_append_right _ (show ((Jvm.Cond.laysStatic "PatchStore$Sha256" "START" "[I") : Cond) ∈ tables_1 from (List.mem_append_right _ (List.mem_append_right _ (List.mem_append_right _ (List.mem_append_left _ (List.mem_of_getElem? (i := 118) rfl)))))))) (hts _ (List.mem_filter.mp gw_2).1) ht hA, hT⟩
theorem xs_ROUND_mem : ∀ j, j < 64 → (Cond.eq (.elem (Term.static "PatchStore$Sha256" "ROUND" "[I") (.int (Int32.ofNat j))) (.int (sh_ROUND j))) ∈ flatC narrow_1 := by decide +kernel
theorem xs_ROUND_start {b : Addr} {s : State} {A : Nat → Prop} (hts : ∀ w ∈ lw_tbl, w.before #[Value.ref b] s = true) (hf : ∀ w ∈ flatC narrow_1, w.before #[Value.ref b] s = true) (hA : ∀ a : Nat, a < s.heap.size → ¬ A a) : xs_I "PatchStore$Sha256" "ROUND" 64 sh_ROUND A s s.heap := by
  obtain ⟨t, ht, hT⟩ := va_Tof (args := #[Value.ref b]) (tm := (Term.static "PatchStore$Sha256" "ROUND" "[I")) (ty := .int) (N := 64) (f := fun j => .int (sh_ROUND j)) (A := A) (by decide) (hf _ (by decide +kernel)) (va_eqt (hf (Cond.eq (.length (Term.static "PatchStore$Sha256" "ROUND" "[I")) (.int 64)) (by decide +kernel))) (fun j hj => va_eqt (hf _ (xs_ROUND_mem j hj))) hA
  exact ⟨t, va_Zof (hts _ (List.mem_append_right _ (show ((Jvm.Cond.laysStatic "PatchStore$Sha256" "ROUND" "[I") : Cond) ∈ tables_1 from (List.mem_append_right _ (List.mem_append_right _ (List.mem_append_right _ (List.mem_append_left _ (List.mem_of_getElem? (i := 136) rfl)))))))) (hts _ (List.mem_filter.mp gw_2).1) ht hA, hT⟩
theorem xs_FIRST_mem : ∀ j, j < 8 → (Cond.eq (.elem (Term.static "PatchStoreModel" "FIRST" "[J") (.int (Int32.ofNat j))) (.long (sh_FIRST j))) ∈ flatC narrow_1 := by decide +kernel
theorem xs_FIRST_start {b : Addr} {s : State} {A : Nat → Prop} (hts : ∀ w ∈ lw_tbl, w.before #[Value.ref b] s = true) (hf : ∀ w ∈ flatC narrow_1, w.before #[Value.ref b] s = true) (hA : ∀ a : Nat, a < s.heap.size → ¬ A a) : xs_L "PatchStoreModel" "FIRST" 8 sh_FIRST A s s.heap := by
  obtain ⟨t, ht, hT⟩ := va_Tof (args := #[Value.ref b]) (tm := (Term.static "PatchStoreModel" "FIRST" "[J")) (ty := .long) (N := 8) (f := fun j => .long (sh_FIRST j)) (A := A) (by decide) (hf _ (by decide +kernel)) (va_eqt (hf (Cond.eq (.length (Term.static "PatchStoreModel" "FIRST" "[J")) (.int 8)) (by decide +kernel))) (fun j hj => va_eqtl (hf _ (xs_FIRST_mem j hj))) hA
  exact ⟨t, va_Zof (hts _ (List.mem_append_right _ (show ((Jvm.Cond.laysStatic "PatchStoreModel" "FIRST" "[J") : Cond) ∈ tables_1 from (List.mem_append_right _ (List.mem_append_right _ (List.mem_append_right _ (List.mem_append_right _ (List.mem_append_right _ (List.mem_append_right _ (List.mem_append_right _ (List.mem_append_left _ (List.mem_of_getElem? (i := 97) rfl)))))))))))) (hts _ (List.mem_filter.mp gw_13).1) ht hA, hT⟩
theorem xs_ROOTS_mem : ∀ j, j < 80 → (Cond.eq (.elem (Term.static "PatchStoreModel" "ROOTS" "[J") (.int (Int32.ofNat j))) (.long (sh_ROOTS j))) ∈ flatC narrow_1 := by decide +kernel
theorem xs_ROOTS_start {b : Addr} {s : State} {A : Nat → Prop} (hts : ∀ w ∈ lw_tbl, w.before #[Value.ref b] s = true) (hf : ∀ w ∈ flatC narrow_1, w.before #[Value.ref b] s = true) (hA : ∀ a : Nat, a < s.heap.size → ¬ A a) : xs_L "PatchStoreModel" "ROOTS" 80 sh_ROOTS A s s.heap := by
  obtain ⟨t, ht, hT⟩ := va_Tof (args := #[Value.ref b]) (tm := (Term.static "PatchStoreModel" "ROOTS" "[J")) (ty := .long) (N := 80) (f := fun j => .long (sh_ROOTS j)) (A := A) (by decide) (hf _ (by decide +kernel)) (va_eqt (hf (Cond.eq (.length (Term.static "PatchStoreModel" "ROOTS" "[J")) (.int 80)) (by decide +kernel))) (fun j hj => va_eqtl (hf _ (xs_ROOTS_mem j hj))) hA
  exact ⟨t, va_Zof (hts _ (List.mem_append_right _ (show ((Jvm.Cond.laysStatic "PatchStoreModel" "ROOTS" "[J") : Cond) ∈ tables_1 from (List.mem_append_right _ (List.mem_append_right _ (List.mem_append_right _ (List.mem_append_right _ (List.mem_append_right _ (List.mem_append_right _ (List.mem_append_right _ (List.mem_append_left _ (List.mem_of_getElem? (i := 129) rfl)))))))))))) (hts _ (List.mem_filter.mp gw_13).1) ht hA, hT⟩
theorem xn_mem : ∀ q ∈ xn_L, (Cond.not (.castable q.1 q.2)) ∈ flatC narrow_1 := by decide +kernel
theorem xn_start {b : Addr} {s : State} (hf : ∀ w ∈ flatC narrow_1, w.before #[Value.ref b] s = true) : xn s := fun q hq => va_Nc.of (hf _ (xn_mem q hq))
theorem xe_start {b : Addr} {s : State} (hts : ∀ w ∈ lw_tbl, w.before #[Value.ref b] s = true) (hf : ∀ w ∈ flatC narrow_1, w.before #[Value.ref b] s = true) : xe (fun q => s.heap.size ≤ q) s s.heap := by
  have hA : ∀ a : Nat, a < s.heap.size → ¬ (fun q => s.heap.size ≤ q) a := fun a h => Nat.not_le.mpr h
  exact ⟨⟨xc_Zs.of (hts _ (List.mem_append_right _ (show ((Jvm.Cond.laysStatic "java/lang/Throwable" "UNASSIGNED_STACK" "[Ljava/lang/StackTraceElement;") : Cond) ∈ tables_1 from (List.mem_append_right _ (List.mem_append_right _ (List.mem_append_left _ (List.mem_of_getElem? (i := 145) rfl))))))) (hf (Cond.isRef (.static "java/lang/Throwable" "UNASSIGNED_STACK" "[Ljava/lang/StackTraceElement;")) (by decide +kernel)) hA, xc_Zs.of (hts _ (List.mem_append_right _ (show ((Jvm.Cond.laysStatic "java/lang/Throwable" "SUPPRESSED_SENTINEL" "Ljava/util/List;") : Cond) ∈ tables_1 from (List.mem_append_right _ (List.mem_append_right _ (List.mem_append_left _ (List.mem_of_getElem? (i := 147) rfl))))))) (hf (Cond.isRef (.static "java/lang/Throwable" "SUPPRESSED_SENTINEL" "Ljava/util/List;")) (by decide +kernel)) hA⟩, xs_START_start hts hf hA, xs_ROUND_start hts hf hA, xs_FIRST_start hts hf hA, xs_ROOTS_start hts hf hA, xa_start hts⟩
end
